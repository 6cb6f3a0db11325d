def jscr (scr : Nat → Int32) (L : Nat) (x : Int32) : Option Int32 := if x < 0 ∨ L ≤ x.toNatClampNeg then none else some (scr x.toNatClampNeg)
def jSc (G : JG) (s : State) (scr : Nat → Int32) (L : Nat) : Prop := va_X (jSv G 99) L scr s s.heap ∧ jSv G 99 < s.heap.size ∧ ¬ jB G ≤ jSv G 99
section
variable {p : Program} {l : Launch} {e : Env} {R : Room} {s : State} {m : MethodId} {args : Array Value} {below : List Frame} {meth : Method} {c : Code} {G : JG} {cc : ByteArray} {nL D : Nat} {own : String} {Q : State → Prop} {cells slots n : Nat} {ce : Nat → va_E} {pc : Nat} {ls : List (Option Value)} {st : List Value} {scr : Nat → Int32} {L : Nat}
theorem w_scr {x v : Int32} (C : jCx p R s m args meth c G cc nL D own) (hX : jSc G s scr L) (hv : jscr scr L x = some v) (hdg : decode cc pc = .ok (.iaload, 1)) (k : Wk p l e R s m args below meth c G nL Q cells slots n ce (pc + 1) ls (.int v :: st)) : Wk p l e R s m args below meth c G nL Q cells slots n ce pc ls (.int x :: .ref 2099 :: st) := by
  intro lsA H locs hl hr hS
  have hv' : vp_in x L ∧ v = scr x.toNatClampNeg := by
    unfold jscr at hv
    by_cases q : x < 0 ∨ L ≤ x.toNatClampNeg
    · rw [if_pos q] at hv; cases hv
    · rw [if_neg q] at hv; exact ⟨q, (Option.some.inj hv).symm⟩
  show W _ _ _ _ _ _ _ _ _ _ _ _ _ _ _ (F0 m pc lsA (.int x :: .ref (jad G 2099) :: st.map (jV G)))
  rw [jad_v (by decide)]
  obtain ⟨h1, rfl⟩ := hv'
  exact va_sld C.1 C.2.1 hX.1 hX.2.1 hX.2.2 hS h1 hdg (k lsA H locs hl hr hS)
theorem w_scrl (C : jCx p R s m args meth c G cc nL D own) (hX : jSc G s scr L) (hdg : decode cc pc = .ok (.arraylength, 1)) (k : Wk p l e R s m args below meth c G nL Q cells slots n ce (pc + 1) ls (.int (nI L) :: st)) : Wk p l e R s m args below meth c G nL Q cells slots n ce pc ls (.ref 2099 :: st) := by
  intro lsA H locs hl hr hS
  show W _ _ _ _ _ _ _ _ _ _ _ _ _ _ _ (F0 m pc lsA (.ref (jad G 2099) :: st.map (jV G)))
  rw [jad_v (by decide)]
  exact va_slen C.1 C.2.1 hX.1 hX.2.1 hX.2.2 hS hdg (k lsA H locs hl hr hS)
end
def lp_Law_18 (scr : Nat → Int32) (L : Nat) (y0 : Nat) (y1 : Nat) (y2 : Nat) : Nat → Int32 → SM → Option ((SM) ⊕ (Int32 × SM))
  | 0, _, _ => none
  | n + 1, x3, M => if ((nI L) - 6) < x3 then (some (.inl M)) else ((jscr scr L x3).bind fun v2 => if (v2 &&& 31) = 0 then ((jscr scr L (x3 + 1)).bind fun v4 => (jscr scr L (x3 + 2)).bind fun v5 => (jscr scr L (x3 + 3)).bind fun v6 => (jscr scr L (x3 + 4)).bind fun v7 => (jscr scr L (x3 + 5)).bind fun v8 => (f_Sp_feed y1 v4 v5 v6 v7 v8 M).bind fun q9 => (jscr scr L (x3 + 1)).bind fun v10 => (jscr scr L (x3 + 2)).bind fun v11 => (jscr scr L (x3 + 3)).bind fun v12 => (jscr scr L (x3 + 4)).bind fun v13 => (jscr scr L (x3 + 5)).bind fun v14 => (f_Mo_feed y2 v10 v11 v12 v13 v14 q9.2).bind fun q15 => if q9.1 = q15.1 then (lp_Law_18 scr L y0 y1 y2 n (x3 + 6) q15.2) else (some (.inr (0, q15.2)))) else (if (v2 &&& 31) = 1 then ((jscr scr L (x3 + 1)).bind fun v18 => (f_Sp_end y1 v18 M).bind fun q19 => (jscr scr L (x3 + 1)).bind fun v20 => (f_Mo_end y2 v20 q19.2).bind fun q21 => if q19.1 = q21.1 then (lp_Law_18 scr L y0 y1 y2 n (x3 + 6) q21.2) else (some (.inr (0, q21.2)))) else (if (v2 &&& 31) = 2 then ((f_Sp_opera y1 M).bind fun q24 => (f_Mo_opera y2 q24.2).bind fun q25 => if q24.1 = q25.1 then (lp_Law_18 scr L y0 y1 y2 n (x3 + 6) q25.2) else (some (.inr (0, q25.2)))) else (if (v2 &&& 31) = 3 then ((jscr scr L (x3 + 1)).bind fun v28 => (f_Sp_fault y1 v28 M).bind fun q29 => (jscr scr L (x3 + 1)).bind fun v30 => (f_Mo_fault y2 v30 M).bind fun q31 => if q29 = q31 then (lp_Law_18 scr L y0 y1 y2 n (x3 + 6) M) else (some (.inr (0, M)))) else (if (v2 &&& 31) = 4 then ((jscr scr L (x3 + 1)).bind fun v34 => (f_Sp_has y1 v34 M).bind fun q35 => (jscr scr L (x3 + 1)).bind fun v36 => (f_Mo_has y2 v36 M).bind fun q37 => if q35 = q37 then (lp_Law_18 scr L y0 y1 y2 n (x3 + 6) M) else (some (.inr (0, M)))) else (if (v2 &&& 31) = 5 then ((jscr scr L (x3 + 1)).bind fun v40 => (jscr scr L (x3 + 2)).bind fun v41 => (jscr scr L (x3 + 3)).bind fun v42 => (f_Sp_letter y1 v40 v41 v42 M).bind fun q43 => (jscr scr L (x3 + 1)).bind fun v44 => (jscr scr L (x3 + 2)).bind fun v45 => (jscr scr L (x3 + 3)).bind fun v46 => (f_Mo_letter y2 v44 v45 v46 M).bind fun q47 => if q43 = q47 then (lp_Law_18 scr L y0 y1 y2 n (x3 + 6) M) else (some (.inr (0, M)))) else (if (v2 &&& 31) = 6 then ((jscr scr L (x3 + 1)).bind fun v50 => (jscr scr L (x3 + 2)).bind fun v51 => (f_Sp_desk y1 v50 v51 M).bind fun q52 => (jscr scr L (x3 + 1)).bind fun v53 => (jscr scr L (x3 + 2)).bind fun v54 => (f_Mo_desk y2 v53 v54 M).bind fun q55 => if q52 = q55 then (lp_Law_18 scr L y0 y1 y2 n (x3 + 6) M) else (some (.inr (0, M)))) else (if (v2 &&& 31) = 7 then ((jscr scr L (x3 + 1)).bind fun v58 => (jscr scr L (x3 + 2)).bind fun v59 => (f_Sp_deep y1 v58 v59 M).bind fun q60 => (jscr scr L (x3 + 1)).bind fun v61 => (jscr scr L (x3 + 2)).bind fun v62 => (f_Mo_deep y2 v61 v62 M).bind fun q63 => if q60 = q63 then (lp_Law_18 scr L y0 y1 y2 n (x3 + 6) M) else (some (.inr (0, M)))) else (if (v2 &&& 31) = 8 then ((jscr scr L (x3 + 1)).bind fun v66 => (jscr scr L (x3 + 2)).bind fun v67 => (f_Sp_cell y1 v66 v67 M).bind fun q68 => (jscr scr L (x3 + 1)).bind fun v69 => (jscr scr L (x3 + 2)).bind fun v70 => (f_Mo_cell y2 v69 v70 M).bind fun q71 => if q68 = q71 then (lp_Law_18 scr L y0 y1 y2 n (x3 + 6) M) else (some (.inr (0, M)))) else (if (v2 &&& 31) = 9 then ((jscr scr L (x3 + 1)).bind fun v74 => (jscr scr L (x3 + 2)).bind fun v75 => (f_Sp_sums y1 v74 v75 M).bind fun q76 => (jscr scr L (x3 + 1)).bind fun v77 => (jscr scr L (x3 + 2)).bind fun v78 => (f_Mo_sums y2 v77 v78 M).bind fun q79 => if q76 = q79 then (lp_Law_18 scr L y0 y1 y2 n (x3 + 6) M) else (some (.inr (0, M)))) else (if (v2 &&& 31) = 10 then ((jscr scr L (x3 + 1)).bind fun v82 => (jscr scr L (x3 + 2)).bind fun v83 => (f_Sp_led y1 v82 v83 M).bind fun q84 => (jscr scr L (x3 + 1)).bind fun v85 => (jscr scr L (x3 + 2)).bind fun v86 => (f_Mo_led y2 v85 v86 M).bind fun q87 => if q84 = q87 then (lp_Law_18 scr L y0 y1 y2 n (x3 + 6) M) else (some (.inr (0, M)))) else (if (v2 &&& 31) = 11 then ((jscr scr L (x3 + 1)).bind fun v90 => (jscr scr L (x3 + 2)).bind fun v91 => (jscr scr L (x3 + 3)).bind fun v92 => (if v92 = 0 then (some 0) else (some 1) : Option (Int32)).bind fun q93 => (f_Sp_boat y1 v90 v91 q93 M).bind fun q95 => (jscr scr L (x3 + 1)).bind fun v96 => (jscr scr L (x3 + 2)).bind fun v97 => (jscr scr L (x3 + 3)).bind fun v98 => (if v98 = 0 then (some 0) else (some 1) : Option (Int32)).bind fun q99 => (f_Mo_boat y2 v96 v97 q99 M).bind fun q101 => if q95 = q101 then (lp_Law_18 scr L y0 y1 y2 n (x3 + 6) M) else (some (.inr (0, M)))) else (if (v2 &&& 31) = 12 then ((jscr scr L (x3 + 1)).bind fun v104 => (jscr scr L (x3 + 2)).bind fun v105 => (f_Sp_first y1 v104 v105 M).bind fun q106 => (jscr scr L (x3 + 1)).bind fun v107 => (jscr scr L (x3 + 2)).bind fun v108 => (f_Mo_first y2 v107 v108 M).bind fun q109 => if q106 = q109 then (lp_Law_18 scr L y0 y1 y2 n (x3 + 6) M) else (some (.inr (0, M)))) else (if (v2 &&& 31) = 13 then ((jscr scr L (x3 + 1)).bind fun v112 => (jscr scr L (x3 + 2)).bind fun v113 => (f_Sp_turning y1 v112 v113 M).bind fun q114 => (jscr scr L (x3 + 1)).bind fun v115 => (jscr scr L (x3 + 2)).bind fun v116 => (f_Mo_turning y2 v115 v116 M).bind fun q117 => if q114 = q117 then (lp_Law_18 scr L y0 y1 y2 n (x3 + 6) M) else (some (.inr (0, M)))) else (if (v2 &&& 31) = 14 then ((jscr scr L (x3 + 1)).bind fun v120 => (jscr scr L (x3 + 2)).bind fun v121 => (jscr scr L (x3 + 3)).bind fun v122 => (jscr scr L (x3 + 4)).bind fun v123 => (if v123 = 0 then (some 0) else (some 1) : Option (Int32)).bind fun q124 => (f_Sp_mark y1 v120 v121 v122 q124 M).bind fun q126 => (jscr scr L (x3 + 1)).bind fun v127 => (jscr scr L (x3 + 2)).bind fun v128 => (jscr scr L (x3 + 3)).bind fun v129 => (jscr scr L (x3 + 4)).bind fun v130 => (if v130 = 0 then (some 0) else (some 1) : Option (Int32)).bind fun q131 => (f_Mo_mark y2 v127 v128 v129 q131 q126.2).bind fun q133 => if q126.1 = q133.1 then (lp_Law_18 scr L y0 y1 y2 n (x3 + 6) q133.2) else (some (.inr (0, q133.2)))) else (if (v2 &&& 31) = 15 then ((jscr scr L (x3 + 1)).bind fun v136 => (f_Sp_teach y1 v136 M).bind fun q137 => (jscr scr L (x3 + 1)).bind fun v138 => (f_Mo_teach y2 v138 q137.2).bind fun q139 => if q137.1 = q139.1 then (lp_Law_18 scr L y0 y1 y2 n (x3 + 6) q139.2) else (some (.inr (0, q139.2)))) else (if (v2 &&& 31) = 16 then ((f_Sp_undo y1 M).bind fun q142 => (f_Mo_undo y2 q142.2).bind fun q143 => if q142.1 = q143.1 then (lp_Law_18 scr L y0 y1 y2 n (x3 + 6) q143.2) else (some (.inr (0, q143.2)))) else (if (v2 &&& 31) = 17 then ((jscr scr L (x3 + 1)).bind fun v146 => (jscr scr L (x3 + 2)).bind fun v147 => (jscr scr L (x3 + 3)).bind fun v148 => (f_Sp_stop y1 v146 v147 v148 M).bind fun q149 => (jscr scr L (x3 + 1)).bind fun v150 => (jscr scr L (x3 + 2)).bind fun v151 => (jscr scr L (x3 + 3)).bind fun v152 => (f_Mo_stop y2 v150 v151 v152 q149.2).bind fun q153 => if q149.1 = q153.1 then (lp_Law_18 scr L y0 y1 y2 n (x3 + 6) q153.2) else (some (.inr (0, q153.2)))) else (if (v2 &&& 31) = 18 then ((jscr scr L (x3 + 1)).bind fun v156 => (jscr scr L (x3 + 2)).bind fun v157 => (jscr scr L (x3 + 3)).bind fun v158 => (f_Sp_bring y1 v156 v157 v158 M).bind fun q159 => (jscr scr L (x3 + 1)).bind fun v160 => (jscr scr L (x3 + 2)).bind fun v161 => (jscr scr L (x3 + 3)).bind fun v162 => (f_Mo_bring y2 v160 v161 v162 q159.2).bind fun q163 => if q159.1 = q163.1 then (lp_Law_18 scr L y0 y1 y2 n (x3 + 6) q163.2) else (some (.inr (0, q163.2)))) else (if (v2 &&& 31) = 19 then ((f_Sp_wet y1 M).bind fun q166 => (f_Mo_wet y2 q166.2).bind fun q167 => if q166.1 = q167.1 then (lp_Law_18 scr L y0 y1 y2 n (x3 + 6) q167.2) else (some (.inr (0, q167.2)))) else (if (v2 &&& 31) = 20 then ((jscr scr L (x3 + 1)).bind fun v170 => (jscr scr L (x3 + 2)).bind fun v171 => (f_Sp_early y1 v170 v171 M).bind fun q172 => (jscr scr L (x3 + 1)).bind fun v173 => (jscr scr L (x3 + 2)).bind fun v174 => (f_Mo_early y2 v173 v174 q172.2).bind fun q175 => if q172.1 = q175.1 then (lp_Law_18 scr L y0 y1 y2 n (x3 + 6) q175.2) else (some (.inr (0, q175.2)))) else (if (v2 &&& 31) = 21 then ((jscr scr L (x3 + 1)).bind fun v178 => (jscr scr L (x3 + 2)).bind fun v179 => (f_Sp_encore y1 v178 v179 M).bind fun q180 => (jscr scr L (x3 + 1)).bind fun v181 => (jscr scr L (x3 + 2)).bind fun v182 => (f_Mo_encore y2 v181 v182 q180.2).bind fun q183 => if q180.1 = q183.1 then (lp_Law_18 scr L y0 y1 y2 n (x3 + 6) q183.2) else (some (.inr (0, q183.2)))) else (if (v2 &&& 31) = 22 then ((jscr scr L (x3 + 1)).bind fun v186 => (jscr scr L (x3 + 2)).bind fun v187 => (jscr scr L (x3 + 3)).bind fun v188 => (f_Sp_trout y1 v186 v187 v188 M).bind fun q189 => (jscr scr L (x3 + 1)).bind fun v190 => (jscr scr L (x3 + 2)).bind fun v191 => (jscr scr L (x3 + 3)).bind fun v192 => (f_Mo_trout y2 v190 v191 v192 q189.2).bind fun q193 => if q189.1 = q193.1 then (lp_Law_18 scr L y0 y1 y2 n (x3 + 6) q193.2) else (some (.inr (0, q193.2)))) else (if (v2 &&& 31) = 23 then ((jscr scr L (x3 + 1)).bind fun v196 => (f_Sp_seed y1 v196 M).bind fun q197 => (jscr scr L (x3 + 1)).bind fun v198 => (f_Mo_seed y2 v198 q197.2).bind fun q199 => if q197.1 = q199.1 then (lp_Law_18 scr L y0 y1 y2 n (x3 + 6) q199.2) else (some (.inr (0, q199.2)))) else (if (v2 &&& 31) = 24 then ((f_Sp_ask y1 M).bind fun q202 => (f_Mo_ask y2 q202.2).bind fun q203 => if q202.1 = q203.1 then (lp_Law_18 scr L y0 y1 y2 n (x3 + 6) q203.2) else (some (.inr (0, q203.2)))) else (if (v2 &&& 31) = 25 then ((f_Sp_image y1 M).bind fun q206 => (f_Mo_image y2 q206.2).bind fun q207 => if q206.1 = q207.1 then (lp_Law_18 scr L y0 y1 y2 n (x3 + 6) q207.2) else (some (.inr (0, q207.2)))) else (if (v2 &&& 31) = 26 then ((jscr scr L (x3 + 1)).bind fun v210 => (f_Sp_octet y1 v210 M).bind fun q211 => (jscr scr L (x3 + 1)).bind fun v212 => (f_Mo_octet y2 v212 M).bind fun q213 => if q211 = q213 then (lp_Law_18 scr L y0 y1 y2 n (x3 + 6) M) else (some (.inr (0, M)))) else (if (v2 &&& 31) = 27 then ((f_Sp_on y1 M).bind fun q216 => (f_Mo_on y2 q216.2).bind fun q217 => if q216.1 = q217.1 then (lp_Law_18 scr L y0 y1 y2 n (x3 + 6) q217.2) else (some (.inr (0, q217.2)))) else (lp_Law_18 scr L y0 y1 y2 n (x3 + 6) M)))))))))))))))))))))))))))))
def f_Law (scr : Nat → Int32) (L : Nat) (M : SM) : Option (Int32 × SM) := jsb (lp_Law_18 scr L 2099 0 366 jfuel 0 M) id fun q219 => some (1, q219)
section
variable {p : Program} {l : Launch} {e : Env} {R : Room} {s : State} {m : MethodId} {args : Array Value} {below : List Frame} {meth : Method} {c : Code} {G : JG} {D : Nat} {scr : Nat → Int32} {L : Nat} {Q : State → Prop}
set_option maxHeartbeats 4000000 in
set_option maxRecDepth 20000 in
theorem K_Law (C : jCx p R s m args meth c G code 4 D "SluicePitLaw") (F : jF G = false) (hD : 1300 ≤ D) (hcs : 430 ≤ R.cells ∧ 28833 ≤ R.slots) (hX : jSc G s scr L) (hp1 : jkd 0 11) (hp2 : jkd 366 12) (M : SM) (X : Int32 × SM → Prop) (hR : ∀ v M', X (v, M') → ∀ (pc : Nat) (ls : List (Option Value)), decode code pc = .ok (.ireturn, 1) → narrow FieldType.boolean (.int v) = .int v → Wk p l e R s m args below meth c G 4 Q 430 28833 jN0 (jce G M') pc ls [.int v]) : J X (f_Law scr L M) (Wk p l e R s m args below meth c G 4 Q 430 28833 jN0 (jce G M) 18 [some (.ref 2099), some (.ref 0), some (.ref 366), some (.int 0)] []) := by
  unfold f_Law
  have L18 : ∀ (y0 : Nat) (y1 : Nat) (y2 : Nat) (hy0 : y0 = 2099) (hy1 : jkd y1 11) (hy2 : jkd y2 12) (n : Nat) (x3 : Int32) (M : SM), J (Sum.elim (fun (q219 : SM) => Wk p l e R s m args below meth c G 4 Q 430 28833 jN0 (jce G q219) 1043 [none, none, none, none] []) X) (lp_Law_18 scr L y0 y1 y2 n x3 M) (Wk p l e R s m args below meth c G 4 Q 430 28833 jN0 (jce G M) 18 [some (.ref y0), some (.ref y1), some (.ref y2), some (.int x3)] []) := by
    intro y0 y1 y2 hy0 hy1 hy2 n
    subst hy0
    induction n with
    | zero => intro x3 M; exact J_none
    | succ n ih =>
      intro x3 M
      unfold lp_Law_18
      refine J_mono (w_iload_n C (jd jdt_Law_0 10 rfl) rfl) ?_
      refine J_mono (w_aload_n C (jd jdt_Law_0 11 rfl) rfl) ?_
      refine J_mono (w_scrl C hX (jd jdt_Law_0 12 rfl)) ?_
      refine J_mono (w_bipush_6 C (jd jdt_Law_0 13 rfl)) ?_
      refine J_mono (w_isub C (jd jdt_Law_0 14 rfl)) ?_
      refine J_br (w_icmp_gt C (jd jdt_Law_0 15 rfl) rfl) (fun h1 => J_pos h1 ?_) (fun h1 => J_neg h1 ?_)
      · exact J_some (fun hx => Wk_sb hx trivial)
      · refine J_mono (w_aload_n C (jd jdt_Law_0 16 rfl) rfl) ?_
        refine J_mono (w_iload_n C (jd jdt_Law_0 17 rfl) rfl) ?_
        refine J_bind (fun v2 hv2 => ?_)
        refine J_mono (w_scr C hX hv2 (jd jdt_Law_0 18 rfl)) ?_
        refine J_mono (w_bipush_31 C (jd jdt_Law_0 19 rfl)) ?_
        refine J_mono (w_iand C (jd jdt_Law_0 20 rfl)) ?_
        refine J_ite (fun h3 => ?_) (fun h3 => ?_)
        · refine J_mono (w_tsw C h3 (jd jdt_Law_0 21 rfl) (by decide) (by decide) rfl rfl) ?_
          refine J_mono (w_aload_n C (jd jdt_Law_0 22 rfl) rfl) ?_
          refine J_mono (w_aload_n C (jd jdt_Law_0 23 rfl) rfl) ?_
          refine J_mono (w_iload_n C (jd jdt_Law_0 24 rfl) rfl) ?_
          refine J_mono (w_iconst_1 C (jd jdt_Law_0 25 rfl)) ?_
          refine J_mono (w_iadd C (jd jdt_Law_0 26 rfl)) ?_
          refine J_bind (fun v4 hv4 => ?_)
          refine J_mono (w_scr C hX hv4 (jd jdt_Law_0 27 rfl)) ?_
          refine J_mono (w_aload_n C (jd jdt_Law_0 28 rfl) rfl) ?_
          refine J_mono (w_iload_n C (jd jdt_Law_0 29 rfl) rfl) ?_
          refine J_mono (w_iconst_2 C (jd jdt_Law_0 30 rfl)) ?_
          refine J_mono (w_iadd C (jd jdt_Law_0 31 rfl)) ?_
          refine J_bind (fun v5 hv5 => ?_)
          refine J_mono (w_scr C hX hv5 (jd jdt_Law_0 32 rfl)) ?_
          refine J_mono (w_aload_n C (jd jdt_Law_0 33 rfl) rfl) ?_
          refine J_mono (w_iload_n C (jd jdt_Law_0 34 rfl) rfl) ?_
          refine J_mono (w_iconst_3 C (jd jdt_Law_0 35 rfl)) ?_
          refine J_mono (w_iadd C (jd jdt_Law_0 36 rfl)) ?_
          refine J_bind (fun v6 hv6 => ?_)
          refine J_mono (w_scr C hX hv6 (jd jdt_Law_0 37 rfl)) ?_
          refine J_mono (w_aload_n C (jd jdt_Law_0 38 rfl) rfl) ?_
          refine J_mono (w_iload_n C (jd jdt_Law_0 39 rfl) rfl) ?_
          refine J_mono (w_iconst_4 C (jd jdt_Law_1 0 rfl)) ?_
          refine J_mono (w_iadd C (jd jdt_Law_1 1 rfl)) ?_
          refine J_bind (fun v7 hv7 => ?_)
          refine J_mono (w_scr C hX hv7 (jd jdt_Law_1 2 rfl)) ?_
          refine J_mono (w_aload_n C (jd jdt_Law_1 3 rfl) rfl) ?_
          refine J_mono (w_iload_n C (jd jdt_Law_1 4 rfl) rfl) ?_
          refine J_mono (w_iconst_5 C (jd jdt_Law_1 5 rfl)) ?_
          refine J_mono (w_iadd C (jd jdt_Law_1 6 rfl)) ?_
          refine J_bind (fun v8 hv8 => ?_)
          refine J_mono (w_scr C hX hv8 (jd jdt_Law_1 7 rfl)) ?_
          refine J_bind (fun q9 hq9 => ?_)
          refine J_mono (jc_Law_13 C hcs hy1 (C_Sp_feed l G F y1 v4 v5 v6 v7 v8 hy1 M hq9) rfl (Nat.le_trans (Nat.le_of_ble_eq_true rfl : 3 + 1 ≤ 1300) hD) (jd jdt_Law_1 8 rfl)) ?_
          refine J_mono (w_aload_n C (jd jdt_Law_1 9 rfl) rfl) ?_
          refine J_mono (w_aload_n C (jd jdt_Law_1 10 rfl) rfl) ?_
          refine J_mono (w_iload_n C (jd jdt_Law_1 11 rfl) rfl) ?_
          refine J_mono (w_iconst_1 C (jd jdt_Law_1 12 rfl)) ?_
          refine J_mono (w_iadd C (jd jdt_Law_1 13 rfl)) ?_
          refine J_bind (fun v10 hv10 => ?_)
          refine J_mono (w_scr C hX hv10 (jd jdt_Law_1 14 rfl)) ?_
          refine J_mono (w_aload_n C (jd jdt_Law_1 15 rfl) rfl) ?_
          refine J_mono (w_iload_n C (jd jdt_Law_1 16 rfl) rfl) ?_
          refine J_mono (w_iconst_2 C (jd jdt_Law_1 17 rfl)) ?_
          refine J_mono (w_iadd C (jd jdt_Law_1 18 rfl)) ?_
          refine J_bind (fun v11 hv11 => ?_)
          refine J_mono (w_scr C hX hv11 (jd jdt_Law_1 19 rfl)) ?_
          refine J_mono (w_aload_n C (jd jdt_Law_1 20 rfl) rfl) ?_
          refine J_mono (w_iload_n C (jd jdt_Law_1 21 rfl) rfl) ?_
          refine J_mono (w_iconst_3 C (jd jdt_Law_1 22 rfl)) ?_
          refine J_mono (w_iadd C (jd jdt_Law_1 23 rfl)) ?_
          refine J_bind (fun v12 hv12 => ?_)
          refine J_mono (w_scr C hX hv12 (jd jdt_Law_1 24 rfl)) ?_
          refine J_mono (w_aload_n C (jd jdt_Law_1 25 rfl) rfl) ?_
          refine J_mono (w_iload_n C (jd jdt_Law_1 26 rfl) rfl) ?_
          refine J_mono (w_iconst_4 C (jd jdt_Law_1 27 rfl)) ?_
          refine J_mono (w_iadd C (jd jdt_Law_1 28 rfl)) ?_
          refine J_bind (fun v13 hv13 => ?_)
          refine J_mono (w_scr C hX hv13 (jd jdt_Law_1 29 rfl)) ?_
          refine J_mono (w_aload_n C (jd jdt_Law_1 30 rfl) rfl) ?_
          refine J_mono (w_iload_n C (jd jdt_Law_1 31 rfl) rfl) ?_
          refine J_mono (w_iconst_5 C (jd jdt_Law_1 32 rfl)) ?_
          refine J_mono (w_iadd C (jd jdt_Law_1 33 rfl)) ?_
          refine J_bind (fun v14 hv14 => ?_)
          refine J_mono (w_scr C hX hv14 (jd jdt_Law_1 34 rfl)) ?_
          refine J_bind (fun q15 hq15 => ?_)
          refine J_mono (jc_Law_17 C hcs hy2 (C_Mo_feed l G F y2 v10 v11 v12 v13 v14 hy2 q9.2 hq15) rfl (Nat.le_trans (Nat.le_of_ble_eq_true rfl : 1 + 1 ≤ 1300) hD) (jd jdt_Law_1 35 rfl)) ?_
          refine J_br (w_icmp_eq C (jd jdt_Law_1 36 rfl) rfl) (fun h16 => J_pos h16 ?_) (fun h16 => J_neg h16 ?_)
          · refine J_mono (w_iinc (v := x3 + 6) (ls' := [some (.ref 2099), some (.ref y1), some (.ref y2), some (.int (x3 + 6))]) C (jd jdt_Law_17 35 rfl) rfl rfl (by decide) rfl rfl) ?_
            refine J_mono (w_goto C (jd jdt_Law_17 36 rfl) rfl) ?_
            exact J_sub (ih (x3 + 6) q15.2) ⟨rfl, rfl, rfl, rfl, trivial⟩
          · refine J_mono (w_iconst_0 C (jd jdt_Law_1 37 rfl)) ?_
            exact J_some (fun hx => hR 0 q15.2 hx _ _ (jd jdt_Law_1 38 rfl) rfl)
        · refine J_ite (fun h17 => ?_) (fun h17 => ?_)
          · refine J_mono (w_tsw C h17 (jd jdt_Law_0 21 rfl) (by decide) (by decide) rfl rfl) ?_
            refine J_mono (w_aload_n C (jd jdt_Law_1 39 rfl) rfl) ?_
            refine J_mono (w_aload_n C (jd jdt_Law_2 0 rfl) rfl) ?_
            refine J_mono (w_iload_n C (jd jdt_Law_2 1 rfl) rfl) ?_
            refine J_mono (w_iconst_1 C (jd jdt_Law_2 2 rfl)) ?_
            refine J_mono (w_iadd C (jd jdt_Law_2 3 rfl)) ?_
            refine J_bind (fun v18 hv18 => ?_)
            refine J_mono (w_scr C hX hv18 (jd jdt_Law_2 4 rfl)) ?_
            refine J_bind (fun q19 hq19 => ?_)
            refine J_mono (jc_Law_18 C hcs hy1 (C_Sp_end l G F y1 v18 hy1 M hq19) rfl (Nat.le_trans (Nat.le_of_ble_eq_true rfl : 1 + 1 ≤ 1300) hD) (jd jdt_Law_2 5 rfl)) ?_
            refine J_mono (w_aload_n C (jd jdt_Law_2 6 rfl) rfl) ?_
            refine J_mono (w_aload_n C (jd jdt_Law_2 7 rfl) rfl) ?_
            refine J_mono (w_iload_n C (jd jdt_Law_2 8 rfl) rfl) ?_
            refine J_mono (w_iconst_1 C (jd jdt_Law_2 9 rfl)) ?_
            refine J_mono (w_iadd C (jd jdt_Law_2 10 rfl)) ?_
            refine J_bind (fun v20 hv20 => ?_)
            refine J_mono (w_scr C hX hv20 (jd jdt_Law_2 11 rfl)) ?_
            refine J_bind (fun q21 hq21 => ?_)
            refine J_mono (jc_Law_22 C hcs hy2 (C_Mo_end l G F y2 v20 hy2 q19.2 hq21) rfl (Nat.le_trans (Nat.le_of_ble_eq_true rfl : 1 + 1 ≤ 1300) hD) (jd jdt_Law_2 12 rfl)) ?_
            refine J_br (w_icmp_eq C (jd jdt_Law_2 13 rfl) rfl) (fun h22 => J_pos h22 ?_) (fun h22 => J_neg h22 ?_)
            · refine J_mono (w_iinc (v := x3 + 6) (ls' := [some (.ref 2099), some (.ref y1), some (.ref y2), some (.int (x3 + 6))]) C (jd jdt_Law_17 35 rfl) rfl rfl (by decide) rfl rfl) ?_
              refine J_mono (w_goto C (jd jdt_Law_17 36 rfl) rfl) ?_
              exact J_sub (ih (x3 + 6) q21.2) ⟨rfl, rfl, rfl, rfl, trivial⟩
            · refine J_mono (w_iconst_0 C (jd jdt_Law_2 14 rfl)) ?_
              exact J_some (fun hx => hR 0 q21.2 hx _ _ (jd jdt_Law_2 15 rfl) rfl)
          · refine J_ite (fun h23 => ?_) (fun h23 => ?_)
            · refine J_mono (w_tsw C h23 (jd jdt_Law_0 21 rfl) (by decide) (by decide) rfl rfl) ?_
              refine J_mono (w_aload_n C (jd jdt_Law_2 16 rfl) rfl) ?_
              refine J_bind (fun q24 hq24 => ?_)
              refine J_mono (jc_Law_23 C hcs hy1 (C_Sp_opera l G F y1 hy1 M hq24) rfl (Nat.le_trans (Nat.le_of_ble_eq_true rfl : 53 + 1 ≤ 1300) hD) (jd jdt_Law_2 17 rfl)) ?_
              refine J_mono (w_aload_n C (jd jdt_Law_2 18 rfl) rfl) ?_
              refine J_bind (fun q25 hq25 => ?_)
              refine J_mono (jc_Law_27 C hcs hy2 (C_Mo_opera l G F y2 hy2 q24.2 hq25) rfl (Nat.le_trans (Nat.le_of_ble_eq_true rfl : 10 + 1 ≤ 1300) hD) (jd jdt_Law_2 19 rfl)) ?_
              refine J_br (w_icmp_eq C (jd jdt_Law_2 20 rfl) rfl) (fun h26 => J_pos h26 ?_) (fun h26 => J_neg h26 ?_)
              · refine J_mono (w_iinc (v := x3 + 6) (ls' := [some (.ref 2099), some (.ref y1), some (.ref y2), some (.int (x3 + 6))]) C (jd jdt_Law_17 35 rfl) rfl rfl (by decide) rfl rfl) ?_
                refine J_mono (w_goto C (jd jdt_Law_17 36 rfl) rfl) ?_
                exact J_sub (ih (x3 + 6) q25.2) ⟨rfl, rfl, rfl, rfl, trivial⟩
              · refine J_mono (w_iconst_0 C (jd jdt_Law_2 21 rfl)) ?_
                exact J_some (fun hx => hR 0 q25.2 hx _ _ (jd jdt_Law_2 22 rfl) rfl)
            · refine J_ite (fun h27 => ?_) (fun h27 => ?_)
              · refine J_mono (w_tsw C h27 (jd jdt_Law_0 21 rfl) (by decide) (by decide) rfl rfl) ?_
                refine J_mono (w_aload_n C (jd jdt_Law_2 23 rfl) rfl) ?_
                refine J_mono (w_aload_n C (jd jdt_Law_2 24 rfl) rfl) ?_
                refine J_mono (w_iload_n C (jd jdt_Law_2 25 rfl) rfl) ?_
                refine J_mono (w_iconst_1 C (jd jdt_Law_2 26 rfl)) ?_
                refine J_mono (w_iadd C (jd jdt_Law_2 27 rfl)) ?_
                refine J_bind (fun v28 hv28 => ?_)
                refine J_mono (w_scr C hX hv28 (jd jdt_Law_2 28 rfl)) ?_
                refine J_bind (fun q29 hq29 => ?_)
                refine J_mono (jc_Law_28 C hcs hy1 (C_Sp_fault l G F y1 v28 hy1 M hq29) rfl (Nat.le_trans (Nat.le_of_ble_eq_true rfl : 1 + 1 ≤ 1300) hD) (jd jdt_Law_2 29 rfl)) ?_
                refine J_mono (w_aload_n C (jd jdt_Law_2 30 rfl) rfl) ?_
                refine J_mono (w_aload_n C (jd jdt_Law_2 31 rfl) rfl) ?_
                refine J_mono (w_iload_n C (jd jdt_Law_2 32 rfl) rfl) ?_
                refine J_mono (w_iconst_1 C (jd jdt_Law_2 33 rfl)) ?_
                refine J_mono (w_iadd C (jd jdt_Law_2 34 rfl)) ?_
                refine J_bind (fun v30 hv30 => ?_)
                refine J_mono (w_scr C hX hv30 (jd jdt_Law_2 35 rfl)) ?_
                refine J_bind (fun q31 hq31 => ?_)
                refine J_mono (jc_Law_32 C hcs hy2 (C_Mo_fault l G F y2 v30 hy2 M hq31) rfl (Nat.le_trans (Nat.le_of_ble_eq_true rfl : 1 + 1 ≤ 1300) hD) (jd jdt_Law_2 36 rfl)) ?_
                refine J_br (w_icmp_eq C (jd jdt_Law_2 37 rfl) rfl) (fun h32 => J_pos h32 ?_) (fun h32 => J_neg h32 ?_)
                · refine J_mono (w_iinc (v := x3 + 6) (ls' := [some (.ref 2099), some (.ref y1), some (.ref y2), some (.int (x3 + 6))]) C (jd jdt_Law_17 35 rfl) rfl rfl (by decide) rfl rfl) ?_
                  refine J_mono (w_goto C (jd jdt_Law_17 36 rfl) rfl) ?_
                  exact J_sub (ih (x3 + 6) M) ⟨rfl, rfl, rfl, rfl, trivial⟩
                · refine J_mono (w_iconst_0 C (jd jdt_Law_2 38 rfl)) ?_
                  exact J_some (fun hx => hR 0 M hx _ _ (jd jdt_Law_2 39 rfl) rfl)
              · refine J_ite (fun h33 => ?_) (fun h33 => ?_)
                · refine J_mono (w_tsw C h33 (jd jdt_Law_0 21 rfl) (by decide) (by decide) rfl rfl) ?_
                  refine J_mono (w_aload_n C (jd jdt_Law_3 0 rfl) rfl) ?_
                  refine J_mono (w_aload_n C (jd jdt_Law_3 1 rfl) rfl) ?_
                  refine J_mono (w_iload_n C (jd jdt_Law_3 2 rfl) rfl) ?_
                  refine J_mono (w_iconst_1 C (jd jdt_Law_3 3 rfl)) ?_
                  refine J_mono (w_iadd C (jd jdt_Law_3 4 rfl)) ?_
                  refine J_bind (fun v34 hv34 => ?_)
                  refine J_mono (w_scr C hX hv34 (jd jdt_Law_3 5 rfl)) ?_
                  refine J_bind (fun q35 hq35 => ?_)
                  refine J_mono (jc_Law_33 C hcs hy1 (C_Sp_has l G F y1 v34 hy1 M hq35) rfl (Nat.le_trans (Nat.le_of_ble_eq_true rfl : 8 + 1 ≤ 1300) hD) (jd jdt_Law_3 6 rfl)) ?_
                  refine J_mono (w_aload_n C (jd jdt_Law_3 7 rfl) rfl) ?_
                  refine J_mono (w_aload_n C (jd jdt_Law_3 8 rfl) rfl) ?_
                  refine J_mono (w_iload_n C (jd jdt_Law_3 9 rfl) rfl) ?_
                  refine J_mono (w_iconst_1 C (jd jdt_Law_3 10 rfl)) ?_
                  refine J_mono (w_iadd C (jd jdt_Law_3 11 rfl)) ?_
                  refine J_bind (fun v36 hv36 => ?_)
                  refine J_mono (w_scr C hX hv36 (jd jdt_Law_3 12 rfl)) ?_
                  refine J_bind (fun q37 hq37 => ?_)
                  refine J_mono (jc_Law_36 C hcs hy2 (C_Mo_has l G F y2 v36 hy2 M hq37) rfl (Nat.le_trans (Nat.le_of_ble_eq_true rfl : 3 + 1 ≤ 1300) hD) (jd jdt_Law_3 13 rfl)) ?_
                  refine J_br (w_icmp_eq C (jd jdt_Law_3 14 rfl) rfl) (fun h38 => J_pos h38 ?_) (fun h38 => J_neg h38 ?_)
                  · refine J_mono (w_iinc (v := x3 + 6) (ls' := [some (.ref 2099), some (.ref y1), some (.ref y2), some (.int (x3 + 6))]) C (jd jdt_Law_17 35 rfl) rfl rfl (by decide) rfl rfl) ?_
                    refine J_mono (w_goto C (jd jdt_Law_17 36 rfl) rfl) ?_
                    exact J_sub (ih (x3 + 6) M) ⟨rfl, rfl, rfl, rfl, trivial⟩
                  · refine J_mono (w_iconst_0 C (jd jdt_Law_3 15 rfl)) ?_
                    exact J_some (fun hx => hR 0 M hx _ _ (jd jdt_Law_3 16 rfl) rfl)
                · refine J_ite (fun h39 => ?_) (fun h39 => ?_)
                  · refine J_mono (w_tsw C h39 (jd jdt_Law_0 21 rfl) (by decide) (by decide) rfl rfl) ?_
                    refine J_mono (w_aload_n C (jd jdt_Law_3 17 rfl) rfl) ?_
                    refine J_mono (w_aload_n C (jd jdt_Law_3 18 rfl) rfl) ?_
                    refine J_mono (w_iload_n C (jd jdt_Law_3 19 rfl) rfl) ?_
                    refine J_mono (w_iconst_1 C (jd jdt_Law_3 20 rfl)) ?_
                    refine J_mono (w_iadd C (jd jdt_Law_3 21 rfl)) ?_
                    refine J_bind (fun v40 hv40 => ?_)
                    refine J_mono (w_scr C hX hv40 (jd jdt_Law_3 22 rfl)) ?_
                    refine J_mono (w_aload_n C (jd jdt_Law_3 23 rfl) rfl) ?_
                    refine J_mono (w_iload_n C (jd jdt_Law_3 24 rfl) rfl) ?_
                    refine J_mono (w_iconst_2 C (jd jdt_Law_3 25 rfl)) ?_
                    refine J_mono (w_iadd C (jd jdt_Law_3 26 rfl)) ?_
                    refine J_bind (fun v41 hv41 => ?_)
                    refine J_mono (w_scr C hX hv41 (jd jdt_Law_3 27 rfl)) ?_
                    refine J_mono (w_aload_n C (jd jdt_Law_3 28 rfl) rfl) ?_
                    refine J_mono (w_iload_n C (jd jdt_Law_3 29 rfl) rfl) ?_
                    refine J_mono (w_iconst_3 C (jd jdt_Law_3 30 rfl)) ?_
                    refine J_mono (w_iadd C (jd jdt_Law_3 31 rfl)) ?_
                    refine J_bind (fun v42 hv42 => ?_)
                    refine J_mono (w_scr C hX hv42 (jd jdt_Law_3 32 rfl)) ?_
                    refine J_bind (fun q43 hq43 => ?_)
                    refine J_mono (jc_Law_37 C hcs hy1 (C_Sp_letter l G F y1 v40 v41 v42 hy1 M hq43) rfl (Nat.le_trans (Nat.le_of_ble_eq_true rfl : 2 + 1 ≤ 1300) hD) (jd jdt_Law_3 33 rfl)) ?_
                    refine J_mono (w_aload_n C (jd jdt_Law_3 34 rfl) rfl) ?_
                    refine J_mono (w_aload_n C (jd jdt_Law_3 35 rfl) rfl) ?_
                    refine J_mono (w_iload_n C (jd jdt_Law_3 36 rfl) rfl) ?_
                    refine J_mono (w_iconst_1 C (jd jdt_Law_3 37 rfl)) ?_
                    refine J_mono (w_iadd C (jd jdt_Law_3 38 rfl)) ?_
                    refine J_bind (fun v44 hv44 => ?_)
                    refine J_mono (w_scr C hX hv44 (jd jdt_Law_3 39 rfl)) ?_
                    refine J_mono (w_aload_n C (jd jdt_Law_4 0 rfl) rfl) ?_
                    refine J_mono (w_iload_n C (jd jdt_Law_4 1 rfl) rfl) ?_
                    refine J_mono (w_iconst_2 C (jd jdt_Law_4 2 rfl)) ?_
                    refine J_mono (w_iadd C (jd jdt_Law_4 3 rfl)) ?_
                    refine J_bind (fun v45 hv45 => ?_)
                    refine J_mono (w_scr C hX hv45 (jd jdt_Law_4 4 rfl)) ?_
                    refine J_mono (w_aload_n C (jd jdt_Law_4 5 rfl) rfl) ?_
                    refine J_mono (w_iload_n C (jd jdt_Law_4 6 rfl) rfl) ?_
                    refine J_mono (w_iconst_3 C (jd jdt_Law_4 7 rfl)) ?_
                    refine J_mono (w_iadd C (jd jdt_Law_4 8 rfl)) ?_
                    refine J_bind (fun v46 hv46 => ?_)
                    refine J_mono (w_scr C hX hv46 (jd jdt_Law_4 9 rfl)) ?_
                    refine J_bind (fun q47 hq47 => ?_)
                    refine J_mono (jc_Law_41 C hcs hy2 (C_Mo_letter l G F y2 v44 v45 v46 hy2 M hq47) rfl (Nat.le_trans (Nat.le_of_ble_eq_true rfl : 2 + 1 ≤ 1300) hD) (jd jdt_Law_4 10 rfl)) ?_
                    refine J_br (w_icmp_eq C (jd jdt_Law_4 11 rfl) rfl) (fun h48 => J_pos h48 ?_) (fun h48 => J_neg h48 ?_)
                    · refine J_mono (w_iinc (v := x3 + 6) (ls' := [some (.ref 2099), some (.ref y1), some (.ref y2), some (.int (x3 + 6))]) C (jd jdt_Law_17 35 rfl) rfl rfl (by decide) rfl rfl) ?_
                      refine J_mono (w_goto C (jd jdt_Law_17 36 rfl) rfl) ?_
                      exact J_sub (ih (x3 + 6) M) ⟨rfl, rfl, rfl, rfl, trivial⟩
                    · refine J_mono (w_iconst_0 C (jd jdt_Law_4 12 rfl)) ?_
                      exact J_some (fun hx => hR 0 M hx _ _ (jd jdt_Law_4 13 rfl) rfl)
                  · refine J_ite (fun h49 => ?_) (fun h49 => ?_)
                    · refine J_mono (w_tsw C h49 (jd jdt_Law_0 21 rfl) (by decide) (by decide) rfl rfl) ?_
                      refine J_mono (w_aload_n C (jd jdt_Law_4 14 rfl) rfl) ?_
                      refine J_mono (w_aload_n C (jd jdt_Law_4 15 rfl) rfl) ?_
                      refine J_mono (w_iload_n C (jd jdt_Law_4 16 rfl) rfl) ?_
                      refine J_mono (w_iconst_1 C (jd jdt_Law_4 17 rfl)) ?_
                      refine J_mono (w_iadd C (jd jdt_Law_4 18 rfl)) ?_
                      refine J_bind (fun v50 hv50 => ?_)
                      refine J_mono (w_scr C hX hv50 (jd jdt_Law_4 19 rfl)) ?_
                      refine J_mono (w_aload_n C (jd jdt_Law_4 20 rfl) rfl) ?_
                      refine J_mono (w_iload_n C (jd jdt_Law_4 21 rfl) rfl) ?_
                      refine J_mono (w_iconst_2 C (jd jdt_Law_4 22 rfl)) ?_
                      refine J_mono (w_iadd C (jd jdt_Law_4 23 rfl)) ?_
                      refine J_bind (fun v51 hv51 => ?_)
                      refine J_mono (w_scr C hX hv51 (jd jdt_Law_4 24 rfl)) ?_
                      refine J_bind (fun q52 hq52 => ?_)
                      refine J_mono (jc_Law_42 C hcs hy1 (C_Sp_desk l G F y1 v50 v51 hy1 M hq52) rfl (Nat.le_trans (Nat.le_of_ble_eq_true rfl : 3 + 1 ≤ 1300) hD) (jd jdt_Law_4 25 rfl)) ?_
                      refine J_mono (w_aload_n C (jd jdt_Law_4 26 rfl) rfl) ?_
                      refine J_mono (w_aload_n C (jd jdt_Law_4 27 rfl) rfl) ?_
                      refine J_mono (w_iload_n C (jd jdt_Law_4 28 rfl) rfl) ?_
                      refine J_mono (w_iconst_1 C (jd jdt_Law_4 29 rfl)) ?_
                      refine J_mono (w_iadd C (jd jdt_Law_4 30 rfl)) ?_
                      refine J_bind (fun v53 hv53 => ?_)
                      refine J_mono (w_scr C hX hv53 (jd jdt_Law_4 31 rfl)) ?_
                      refine J_mono (w_aload_n C (jd jdt_Law_4 32 rfl) rfl) ?_
                      refine J_mono (w_iload_n C (jd jdt_Law_4 33 rfl) rfl) ?_
                      refine J_mono (w_iconst_2 C (jd jdt_Law_4 34 rfl)) ?_
                      refine J_mono (w_iadd C (jd jdt_Law_4 35 rfl)) ?_
                      refine J_bind (fun v54 hv54 => ?_)
                      refine J_mono (w_scr C hX hv54 (jd jdt_Law_4 36 rfl)) ?_
                      refine J_bind (fun q55 hq55 => ?_)
                      refine J_mono (jc_Law_46 C hcs hy2 (C_Mo_desk l G F y2 v53 v54 hy2 M hq55) rfl (Nat.le_trans (Nat.le_of_ble_eq_true rfl : 3 + 1 ≤ 1300) hD) (jd jdt_Law_4 37 rfl)) ?_
                      refine J_br (w_icmp_eq C (jd jdt_Law_4 38 rfl) rfl) (fun h56 => J_pos h56 ?_) (fun h56 => J_neg h56 ?_)
                      · refine J_mono (w_iinc (v := x3 + 6) (ls' := [some (.ref 2099), some (.ref y1), some (.ref y2), some (.int (x3 + 6))]) C (jd jdt_Law_17 35 rfl) rfl rfl (by decide) rfl rfl) ?_
                        refine J_mono (w_goto C (jd jdt_Law_17 36 rfl) rfl) ?_
                        exact J_sub (ih (x3 + 6) M) ⟨rfl, rfl, rfl, rfl, trivial⟩
                      · refine J_mono (w_iconst_0 C (jd jdt_Law_4 39 rfl)) ?_
                        exact J_some (fun hx => hR 0 M hx _ _ (jd jdt_Law_5 0 rfl) rfl)
                    · refine J_ite (fun h57 => ?_) (fun h57 => ?_)
                      · refine J_mono (w_tsw C h57 (jd jdt_Law_0 21 rfl) (by decide) (by decide) rfl rfl) ?_
                        refine J_mono (w_aload_n C (jd jdt_Law_5 1 rfl) rfl) ?_
                        refine J_mono (w_aload_n C (jd jdt_Law_5 2 rfl) rfl) ?_
                        refine J_mono (w_iload_n C (jd jdt_Law_5 3 rfl) rfl) ?_
                        refine J_mono (w_iconst_1 C (jd jdt_Law_5 4 rfl)) ?_
                        refine J_mono (w_iadd C (jd jdt_Law_5 5 rfl)) ?_
                        refine J_bind (fun v58 hv58 => ?_)
                        refine J_mono (w_scr C hX hv58 (jd jdt_Law_5 6 rfl)) ?_
                        refine J_mono (w_aload_n C (jd jdt_Law_5 7 rfl) rfl) ?_
                        refine J_mono (w_iload_n C (jd jdt_Law_5 8 rfl) rfl) ?_
                        refine J_mono (w_iconst_2 C (jd jdt_Law_5 9 rfl)) ?_
                        refine J_mono (w_iadd C (jd jdt_Law_5 10 rfl)) ?_
                        refine J_bind (fun v59 hv59 => ?_)
                        refine J_mono (w_scr C hX hv59 (jd jdt_Law_5 11 rfl)) ?_
                        refine J_bind (fun q60 hq60 => ?_)
                        refine J_mono (jc_Law_47 C hcs hy1 (C_Sp_deep l G F y1 v58 v59 hy1 M hq60) rfl (Nat.le_trans (Nat.le_of_ble_eq_true rfl : 3 + 1 ≤ 1300) hD) (jd jdt_Law_5 12 rfl)) ?_
                        refine J_mono (w_aload_n C (jd jdt_Law_5 13 rfl) rfl) ?_
                        refine J_mono (w_aload_n C (jd jdt_Law_5 14 rfl) rfl) ?_
                        refine J_mono (w_iload_n C (jd jdt_Law_5 15 rfl) rfl) ?_
                        refine J_mono (w_iconst_1 C (jd jdt_Law_5 16 rfl)) ?_
                        refine J_mono (w_iadd C (jd jdt_Law_5 17 rfl)) ?_
                        refine J_bind (fun v61 hv61 => ?_)
                        refine J_mono (w_scr C hX hv61 (jd jdt_Law_5 18 rfl)) ?_
                        refine J_mono (w_aload_n C (jd jdt_Law_5 19 rfl) rfl) ?_
                        refine J_mono (w_iload_n C (jd jdt_Law_5 20 rfl) rfl) ?_
                        refine J_mono (w_iconst_2 C (jd jdt_Law_5 21 rfl)) ?_
                        refine J_mono (w_iadd C (jd jdt_Law_5 22 rfl)) ?_
                        refine J_bind (fun v62 hv62 => ?_)
                        refine J_mono (w_scr C hX hv62 (jd jdt_Law_5 23 rfl)) ?_
                        refine J_bind (fun q63 hq63 => ?_)
                        refine J_mono (jc_Law_50 C hcs hy2 (C_Mo_deep l G F y2 v61 v62 hy2 M hq63) rfl (Nat.le_trans (Nat.le_of_ble_eq_true rfl : 3 + 1 ≤ 1300) hD) (jd jdt_Law_5 24 rfl)) ?_
                        refine J_br (w_icmp_eq C (jd jdt_Law_5 25 rfl) rfl) (fun h64 => J_pos h64 ?_) (fun h64 => J_neg h64 ?_)
                        · refine J_mono (w_iinc (v := x3 + 6) (ls' := [some (.ref 2099), some (.ref y1), some (.ref y2), some (.int (x3 + 6))]) C (jd jdt_Law_17 35 rfl) rfl rfl (by decide) rfl rfl) ?_
                          refine J_mono (w_goto C (jd jdt_Law_17 36 rfl) rfl) ?_
                          exact J_sub (ih (x3 + 6) M) ⟨rfl, rfl, rfl, rfl, trivial⟩
                        · refine J_mono (w_iconst_0 C (jd jdt_Law_5 26 rfl)) ?_
                          exact J_some (fun hx => hR 0 M hx _ _ (jd jdt_Law_5 27 rfl) rfl)
                      · refine J_ite (fun h65 => ?_) (fun h65 => ?_)
                        · refine J_mono (w_tsw C h65 (jd jdt_Law_0 21 rfl) (by decide) (by decide) rfl rfl) ?_
                          refine J_mono (w_aload_n C (jd jdt_Law_5 28 rfl) rfl) ?_
                          refine J_mono (w_aload_n C (jd jdt_Law_5 29 rfl) rfl) ?_
                          refine J_mono (w_iload_n C (jd jdt_Law_5 30 rfl) rfl) ?_
                          refine J_mono (w_iconst_1 C (jd jdt_Law_5 31 rfl)) ?_
                          refine J_mono (w_iadd C (jd jdt_Law_5 32 rfl)) ?_
                          refine J_bind (fun v66 hv66 => ?_)
                          refine J_mono (w_scr C hX hv66 (jd jdt_Law_5 33 rfl)) ?_
                          refine J_mono (w_aload_n C (jd jdt_Law_5 34 rfl) rfl) ?_
                          refine J_mono (w_iload_n C (jd jdt_Law_5 35 rfl) rfl) ?_
                          refine J_mono (w_iconst_2 C (jd jdt_Law_5 36 rfl)) ?_
                          refine J_mono (w_iadd C (jd jdt_Law_5 37 rfl)) ?_
                          refine J_bind (fun v67 hv67 => ?_)
                          refine J_mono (w_scr C hX hv67 (jd jdt_Law_5 38 rfl)) ?_
                          refine J_bind (fun q68 hq68 => ?_)
                          refine J_mono (jc_Law_51 C hcs hy1 (C_Sp_cell l G F y1 v66 v67 hy1 M hq68) rfl (Nat.le_trans (Nat.le_of_ble_eq_true rfl : 2 + 1 ≤ 1300) hD) (jd jdt_Law_5 39 rfl)) ?_
                          refine J_mono (w_aload_n C (jd jdt_Law_6 0 rfl) rfl) ?_
                          refine J_mono (w_aload_n C (jd jdt_Law_6 1 rfl) rfl) ?_
                          refine J_mono (w_iload_n C (jd jdt_Law_6 2 rfl) rfl) ?_
                          refine J_mono (w_iconst_1 C (jd jdt_Law_6 3 rfl)) ?_
                          refine J_mono (w_iadd C (jd jdt_Law_6 4 rfl)) ?_
                          refine J_bind (fun v69 hv69 => ?_)
                          refine J_mono (w_scr C hX hv69 (jd jdt_Law_6 5 rfl)) ?_
                          refine J_mono (w_aload_n C (jd jdt_Law_6 6 rfl) rfl) ?_
                          refine J_mono (w_iload_n C (jd jdt_Law_6 7 rfl) rfl) ?_
                          refine J_mono (w_iconst_2 C (jd jdt_Law_6 8 rfl)) ?_
                          refine J_mono (w_iadd C (jd jdt_Law_6 9 rfl)) ?_
                          refine J_bind (fun v70 hv70 => ?_)
                          refine J_mono (w_scr C hX hv70 (jd jdt_Law_6 10 rfl)) ?_
                          refine J_bind (fun q71 hq71 => ?_)
                          refine J_mono (jc_Law_54 C hcs hy2 (C_Mo_cell l G F y2 v69 v70 hy2 M hq71) rfl (Nat.le_trans (Nat.le_of_ble_eq_true rfl : 3 + 1 ≤ 1300) hD) (jd jdt_Law_6 11 rfl)) ?_
                          refine J_br (w_icmp_eq C (jd jdt_Law_6 12 rfl) rfl) (fun h72 => J_pos h72 ?_) (fun h72 => J_neg h72 ?_)
                          · refine J_mono (w_iinc (v := x3 + 6) (ls' := [some (.ref 2099), some (.ref y1), some (.ref y2), some (.int (x3 + 6))]) C (jd jdt_Law_17 35 rfl) rfl rfl (by decide) rfl rfl) ?_
                            refine J_mono (w_goto C (jd jdt_Law_17 36 rfl) rfl) ?_
                            exact J_sub (ih (x3 + 6) M) ⟨rfl, rfl, rfl, rfl, trivial⟩
                          · refine J_mono (w_iconst_0 C (jd jdt_Law_6 13 rfl)) ?_
                            exact J_some (fun hx => hR 0 M hx _ _ (jd jdt_Law_6 14 rfl) rfl)
                        · refine J_ite (fun h73 => ?_) (fun h73 => ?_)
                          · refine J_mono (w_tsw C h73 (jd jdt_Law_0 21 rfl) (by decide) (by decide) rfl rfl) ?_
                            refine J_mono (w_aload_n C (jd jdt_Law_6 15 rfl) rfl) ?_
                            refine J_mono (w_aload_n C (jd jdt_Law_6 16 rfl) rfl) ?_
                            refine J_mono (w_iload_n C (jd jdt_Law_6 17 rfl) rfl) ?_
                            refine J_mono (w_iconst_1 C (jd jdt_Law_6 18 rfl)) ?_
                            refine J_mono (w_iadd C (jd jdt_Law_6 19 rfl)) ?_
                            refine J_bind (fun v74 hv74 => ?_)
                            refine J_mono (w_scr C hX hv74 (jd jdt_Law_6 20 rfl)) ?_
                            refine J_mono (w_aload_n C (jd jdt_Law_6 21 rfl) rfl) ?_
                            refine J_mono (w_iload_n C (jd jdt_Law_6 22 rfl) rfl) ?_
                            refine J_mono (w_iconst_2 C (jd jdt_Law_6 23 rfl)) ?_
                            refine J_mono (w_iadd C (jd jdt_Law_6 24 rfl)) ?_
                            refine J_bind (fun v75 hv75 => ?_)
                            refine J_mono (w_scr C hX hv75 (jd jdt_Law_6 25 rfl)) ?_
                            refine J_bind (fun q76 hq76 => ?_)
                            refine J_mono (jc_Law_55 C hcs hy1 (C_Sp_sums l G F y1 v74 v75 hy1 M hq76) rfl (Nat.le_trans (Nat.le_of_ble_eq_true rfl : 3 + 1 ≤ 1300) hD) (jd jdt_Law_6 26 rfl)) ?_
                            refine J_mono (w_aload_n C (jd jdt_Law_6 27 rfl) rfl) ?_
                            refine J_mono (w_aload_n C (jd jdt_Law_6 28 rfl) rfl) ?_
                            refine J_mono (w_iload_n C (jd jdt_Law_6 29 rfl) rfl) ?_
                            refine J_mono (w_iconst_1 C (jd jdt_Law_6 30 rfl)) ?_
                            refine J_mono (w_iadd C (jd jdt_Law_6 31 rfl)) ?_
                            refine J_bind (fun v77 hv77 => ?_)
                            refine J_mono (w_scr C hX hv77 (jd jdt_Law_6 32 rfl)) ?_
                            refine J_mono (w_aload_n C (jd jdt_Law_6 33 rfl) rfl) ?_
                            refine J_mono (w_iload_n C (jd jdt_Law_6 34 rfl) rfl) ?_
                            refine J_mono (w_iconst_2 C (jd jdt_Law_6 35 rfl)) ?_
                            refine J_mono (w_iadd C (jd jdt_Law_6 36 rfl)) ?_
                            refine J_bind (fun v78 hv78 => ?_)
                            refine J_mono (w_scr C hX hv78 (jd jdt_Law_6 37 rfl)) ?_
                            refine J_bind (fun q79 hq79 => ?_)
                            refine J_mono (jc_Law_58 C hcs hy2 (C_Mo_sums l G F y2 v77 v78 hy2 M hq79) rfl (Nat.le_trans (Nat.le_of_ble_eq_true rfl : 3 + 1 ≤ 1300) hD) (jd jdt_Law_6 38 rfl)) ?_
                            refine J_br (w_icmp_eq C (jd jdt_Law_6 39 rfl) rfl) (fun h80 => J_pos h80 ?_) (fun h80 => J_neg h80 ?_)
                            · refine J_mono (w_iinc (v := x3 + 6) (ls' := [some (.ref 2099), some (.ref y1), some (.ref y2), some (.int (x3 + 6))]) C (jd jdt_Law_17 35 rfl) rfl rfl (by decide) rfl rfl) ?_
                              refine J_mono (w_goto C (jd jdt_Law_17 36 rfl) rfl) ?_
                              exact J_sub (ih (x3 + 6) M) ⟨rfl, rfl, rfl, rfl, trivial⟩
                            · refine J_mono (w_iconst_0 C (jd jdt_Law_7 0 rfl)) ?_
                              exact J_some (fun hx => hR 0 M hx _ _ (jd jdt_Law_7 1 rfl) rfl)
                          · refine J_ite (fun h81 => ?_) (fun h81 => ?_)
                            · refine J_mono (w_tsw C h81 (jd jdt_Law_0 21 rfl) (by decide) (by decide) rfl rfl) ?_
                              refine J_mono (w_aload_n C (jd jdt_Law_7 2 rfl) rfl) ?_
                              refine J_mono (w_aload_n C (jd jdt_Law_7 3 rfl) rfl) ?_
                              refine J_mono (w_iload_n C (jd jdt_Law_7 4 rfl) rfl) ?_
                              refine J_mono (w_iconst_1 C (jd jdt_Law_7 5 rfl)) ?_
                              refine J_mono (w_iadd C (jd jdt_Law_7 6 rfl)) ?_
                              refine J_bind (fun v82 hv82 => ?_)
                              refine J_mono (w_scr C hX hv82 (jd jdt_Law_7 7 rfl)) ?_
                              refine J_mono (w_aload_n C (jd jdt_Law_7 8 rfl) rfl) ?_
                              refine J_mono (w_iload_n C (jd jdt_Law_7 9 rfl) rfl) ?_
                              refine J_mono (w_iconst_2 C (jd jdt_Law_7 10 rfl)) ?_
                              refine J_mono (w_iadd C (jd jdt_Law_7 11 rfl)) ?_
                              refine J_bind (fun v83 hv83 => ?_)
                              refine J_mono (w_scr C hX hv83 (jd jdt_Law_7 12 rfl)) ?_
                              refine J_bind (fun q84 hq84 => ?_)
                              refine J_mono (jc_Law_59 C hcs hy1 (C_Sp_led l G F y1 v82 v83 hy1 M hq84) rfl (Nat.le_trans (Nat.le_of_ble_eq_true rfl : 3 + 1 ≤ 1300) hD) (jd jdt_Law_7 13 rfl)) ?_
                              refine J_mono (w_aload_n C (jd jdt_Law_7 14 rfl) rfl) ?_
                              refine J_mono (w_aload_n C (jd jdt_Law_7 15 rfl) rfl) ?_
                              refine J_mono (w_iload_n C (jd jdt_Law_7 16 rfl) rfl) ?_
                              refine J_mono (w_iconst_1 C (jd jdt_Law_7 17 rfl)) ?_
                              refine J_mono (w_iadd C (jd jdt_Law_7 18 rfl)) ?_
                              refine J_bind (fun v85 hv85 => ?_)
                              refine J_mono (w_scr C hX hv85 (jd jdt_Law_7 19 rfl)) ?_
                              refine J_mono (w_aload_n C (jd jdt_Law_7 20 rfl) rfl) ?_
                              refine J_mono (w_iload_n C (jd jdt_Law_7 21 rfl) rfl) ?_
                              refine J_mono (w_iconst_2 C (jd jdt_Law_7 22 rfl)) ?_
                              refine J_mono (w_iadd C (jd jdt_Law_7 23 rfl)) ?_
                              refine J_bind (fun v86 hv86 => ?_)
                              refine J_mono (w_scr C hX hv86 (jd jdt_Law_7 24 rfl)) ?_
                              refine J_bind (fun q87 hq87 => ?_)
                              refine J_mono (jc_Law_62 C hcs hy2 (C_Mo_led l G F y2 v85 v86 hy2 M hq87) rfl (Nat.le_trans (Nat.le_of_ble_eq_true rfl : 3 + 1 ≤ 1300) hD) (jd jdt_Law_7 25 rfl)) ?_
                              refine J_br (w_icmp_eq C (jd jdt_Law_7 26 rfl) rfl) (fun h88 => J_pos h88 ?_) (fun h88 => J_neg h88 ?_)
                              · refine J_mono (w_iinc (v := x3 + 6) (ls' := [some (.ref 2099), some (.ref y1), some (.ref y2), some (.int (x3 + 6))]) C (jd jdt_Law_17 35 rfl) rfl rfl (by decide) rfl rfl) ?_
                                refine J_mono (w_goto C (jd jdt_Law_17 36 rfl) rfl) ?_
                                exact J_sub (ih (x3 + 6) M) ⟨rfl, rfl, rfl, rfl, trivial⟩
                              · refine J_mono (w_iconst_0 C (jd jdt_Law_7 27 rfl)) ?_
                                exact J_some (fun hx => hR 0 M hx _ _ (jd jdt_Law_7 28 rfl) rfl)
                            · refine J_ite (fun h89 => ?_) (fun h89 => ?_)
                              · refine J_mono (w_tsw C h89 (jd jdt_Law_0 21 rfl) (by decide) (by decide) rfl rfl) ?_
                                refine J_mono (w_aload_n C (jd jdt_Law_7 29 rfl) rfl) ?_
                                refine J_mono (w_aload_n C (jd jdt_Law_7 30 rfl) rfl) ?_
                                refine J_mono (w_iload_n C (jd jdt_Law_7 31 rfl) rfl) ?_
                                refine J_mono (w_iconst_1 C (jd jdt_Law_7 32 rfl)) ?_
                                refine J_mono (w_iadd C (jd jdt_Law_7 33 rfl)) ?_
                                refine J_bind (fun v90 hv90 => ?_)
                                refine J_mono (w_scr C hX hv90 (jd jdt_Law_7 34 rfl)) ?_
                                refine J_mono (w_aload_n C (jd jdt_Law_7 35 rfl) rfl) ?_
                                refine J_mono (w_iload_n C (jd jdt_Law_7 36 rfl) rfl) ?_
                                refine J_mono (w_iconst_2 C (jd jdt_Law_7 37 rfl)) ?_
                                refine J_mono (w_iadd C (jd jdt_Law_7 38 rfl)) ?_
                                refine J_bind (fun v91 hv91 => ?_)
                                refine J_mono (w_scr C hX hv91 (jd jdt_Law_7 39 rfl)) ?_
                                refine J_mono (w_aload_n C (jd jdt_Law_8 0 rfl) rfl) ?_
                                refine J_mono (w_iload_n C (jd jdt_Law_8 1 rfl) rfl) ?_
                                refine J_mono (w_iconst_3 C (jd jdt_Law_8 2 rfl)) ?_
                                refine J_mono (w_iadd C (jd jdt_Law_8 3 rfl)) ?_
                                refine J_bind (fun v92 hv92 => ?_)
                                refine J_mono (w_scr C hX hv92 (jd jdt_Law_8 4 rfl)) ?_
                                refine J_seq (fun (q93 : Int32) => Wk p l e R s m args below meth c G 4 Q 430 28833 jN0 (jce G M) 537 [some (.ref 2099), some (.ref y1), some (.ref y2), some (.int x3)] [.int q93, .int v91, .int v90, .ref y1]) ?_ (fun q93 hq93 => ?_)
                                · refine J_br (w_if_eq (y := 0) C (jd jdt_Law_8 5 rfl) rfl) (fun h94 => J_pos h94 ?_) (fun h94 => J_neg h94 ?_)
                                  · refine J_mono (w_iconst_0 C (jd jdt_Law_8 8 rfl)) ?_
                                    exact J_some (fun hx => Wk_sb hx ⟨rfl, rfl, rfl, rfl, trivial⟩)
                                  · refine J_mono (w_iconst_1 C (jd jdt_Law_8 6 rfl)) ?_
                                    refine J_mono (w_goto C (jd jdt_Law_8 7 rfl) rfl) ?_
                                    exact J_some (fun hx => Wk_sb hx ⟨rfl, rfl, rfl, rfl, trivial⟩)
                                · refine J_bind (fun q95 hq95 => ?_)
                                  refine J_mono (jc_Law_63 C hcs hy1 (C_Sp_boat l G F y1 v90 v91 q93 hy1 M hq95) rfl (Nat.le_trans (Nat.le_of_ble_eq_true rfl : 4 + 1 ≤ 1300) hD) (jd jdt_Law_8 9 rfl)) ?_
                                  refine J_mono (w_aload_n C (jd jdt_Law_8 10 rfl) rfl) ?_
                                  refine J_mono (w_aload_n C (jd jdt_Law_8 11 rfl) rfl) ?_
                                  refine J_mono (w_iload_n C (jd jdt_Law_8 12 rfl) rfl) ?_
                                  refine J_mono (w_iconst_1 C (jd jdt_Law_8 13 rfl)) ?_
                                  refine J_mono (w_iadd C (jd jdt_Law_8 14 rfl)) ?_
                                  refine J_bind (fun v96 hv96 => ?_)
                                  refine J_mono (w_scr C hX hv96 (jd jdt_Law_8 15 rfl)) ?_
                                  refine J_mono (w_aload_n C (jd jdt_Law_8 16 rfl) rfl) ?_
                                  refine J_mono (w_iload_n C (jd jdt_Law_8 17 rfl) rfl) ?_
                                  refine J_mono (w_iconst_2 C (jd jdt_Law_8 18 rfl)) ?_
                                  refine J_mono (w_iadd C (jd jdt_Law_8 19 rfl)) ?_
                                  refine J_bind (fun v97 hv97 => ?_)
                                  refine J_mono (w_scr C hX hv97 (jd jdt_Law_8 20 rfl)) ?_
                                  refine J_mono (w_aload_n C (jd jdt_Law_8 21 rfl) rfl) ?_
                                  refine J_mono (w_iload_n C (jd jdt_Law_8 22 rfl) rfl) ?_
                                  refine J_mono (w_iconst_3 C (jd jdt_Law_8 23 rfl)) ?_
                                  refine J_mono (w_iadd C (jd jdt_Law_8 24 rfl)) ?_
                                  refine J_bind (fun v98 hv98 => ?_)
                                  refine J_mono (w_scr C hX hv98 (jd jdt_Law_8 25 rfl)) ?_
                                  refine J_seq (fun (q99 : Int32) => Wk p l e R s m args below meth c G 4 Q 430 28833 jN0 (jce G M) 564 [some (.ref 2099), some (.ref y1), some (.ref y2), some (.int x3)] [.int q99, .int v97, .int v96, .ref y2, .int q95]) ?_ (fun q99 hq99 => ?_)
                                  · refine J_br (w_if_eq (y := 0) C (jd jdt_Law_8 26 rfl) rfl) (fun h100 => J_pos h100 ?_) (fun h100 => J_neg h100 ?_)
                                    · refine J_mono (w_iconst_0 C (jd jdt_Law_8 29 rfl)) ?_
                                      exact J_some (fun hx => Wk_sb hx ⟨rfl, rfl, rfl, rfl, trivial⟩)
                                    · refine J_mono (w_iconst_1 C (jd jdt_Law_8 27 rfl)) ?_
                                      refine J_mono (w_goto C (jd jdt_Law_8 28 rfl) rfl) ?_
                                      exact J_some (fun hx => Wk_sb hx ⟨rfl, rfl, rfl, rfl, trivial⟩)
                                  · refine J_bind (fun q101 hq101 => ?_)
                                    refine J_mono (jc_Law_67 C hcs hy2 (C_Mo_boat l G F y2 v96 v97 q99 hy2 M hq101) rfl (Nat.le_trans (Nat.le_of_ble_eq_true rfl : 3 + 1 ≤ 1300) hD) (jd jdt_Law_8 30 rfl)) ?_
                                    refine J_br (w_icmp_eq C (jd jdt_Law_8 31 rfl) rfl) (fun h102 => J_pos h102 ?_) (fun h102 => J_neg h102 ?_)
                                    · refine J_mono (w_iinc (v := x3 + 6) (ls' := [some (.ref 2099), some (.ref y1), some (.ref y2), some (.int (x3 + 6))]) C (jd jdt_Law_17 35 rfl) rfl rfl (by decide) rfl rfl) ?_
                                      refine J_mono (w_goto C (jd jdt_Law_17 36 rfl) rfl) ?_
                                      exact J_sub (ih (x3 + 6) M) ⟨rfl, rfl, rfl, rfl, trivial⟩
                                    · refine J_mono (w_iconst_0 C (jd jdt_Law_8 32 rfl)) ?_
                                      exact J_some (fun hx => hR 0 M hx _ _ (jd jdt_Law_8 33 rfl) rfl)
                              · refine J_ite (fun h103 => ?_) (fun h103 => ?_)
                                · refine J_mono (w_tsw C h103 (jd jdt_Law_0 21 rfl) (by decide) (by decide) rfl rfl) ?_
                                  refine J_mono (w_aload_n C (jd jdt_Law_8 34 rfl) rfl) ?_
                                  refine J_mono (w_aload_n C (jd jdt_Law_8 35 rfl) rfl) ?_
                                  refine J_mono (w_iload_n C (jd jdt_Law_8 36 rfl) rfl) ?_
                                  refine J_mono (w_iconst_1 C (jd jdt_Law_8 37 rfl)) ?_
                                  refine J_mono (w_iadd C (jd jdt_Law_8 38 rfl)) ?_
                                  refine J_bind (fun v104 hv104 => ?_)
                                  refine J_mono (w_scr C hX hv104 (jd jdt_Law_8 39 rfl)) ?_
                                  refine J_mono (w_aload_n C (jd jdt_Law_9 0 rfl) rfl) ?_
                                  refine J_mono (w_iload_n C (jd jdt_Law_9 1 rfl) rfl) ?_
                                  refine J_mono (w_iconst_2 C (jd jdt_Law_9 2 rfl)) ?_
                                  refine J_mono (w_iadd C (jd jdt_Law_9 3 rfl)) ?_
                                  refine J_bind (fun v105 hv105 => ?_)
                                  refine J_mono (w_scr C hX hv105 (jd jdt_Law_9 4 rfl)) ?_
                                  refine J_bind (fun q106 hq106 => ?_)
                                  refine J_mono (jc_Law_68 C hcs hy1 (C_Sp_first l G F y1 v104 v105 hy1 M hq106) rfl (Nat.le_trans (Nat.le_of_ble_eq_true rfl : 4 + 1 ≤ 1300) hD) (jd jdt_Law_9 5 rfl)) ?_
                                  refine J_mono (w_aload_n C (jd jdt_Law_9 6 rfl) rfl) ?_
                                  refine J_mono (w_aload_n C (jd jdt_Law_9 7 rfl) rfl) ?_
                                  refine J_mono (w_iload_n C (jd jdt_Law_9 8 rfl) rfl) ?_
                                  refine J_mono (w_iconst_1 C (jd jdt_Law_9 9 rfl)) ?_
                                  refine J_mono (w_iadd C (jd jdt_Law_9 10 rfl)) ?_
                                  refine J_bind (fun v107 hv107 => ?_)
                                  refine J_mono (w_scr C hX hv107 (jd jdt_Law_9 11 rfl)) ?_
                                  refine J_mono (w_aload_n C (jd jdt_Law_9 12 rfl) rfl) ?_
                                  refine J_mono (w_iload_n C (jd jdt_Law_9 13 rfl) rfl) ?_
                                  refine J_mono (w_iconst_2 C (jd jdt_Law_9 14 rfl)) ?_
                                  refine J_mono (w_iadd C (jd jdt_Law_9 15 rfl)) ?_
                                  refine J_bind (fun v108 hv108 => ?_)
                                  refine J_mono (w_scr C hX hv108 (jd jdt_Law_9 16 rfl)) ?_
                                  refine J_bind (fun q109 hq109 => ?_)
                                  refine J_mono (jc_Law_71 C hcs hy2 (C_Mo_first l G F y2 v107 v108 hy2 M hq109) rfl (Nat.le_trans (Nat.le_of_ble_eq_true rfl : 3 + 1 ≤ 1300) hD) (jd jdt_Law_9 17 rfl)) ?_
                                  refine J_br (w_icmp_eq C (jd jdt_Law_9 18 rfl) rfl) (fun h110 => J_pos h110 ?_) (fun h110 => J_neg h110 ?_)
                                  · refine J_mono (w_iinc (v := x3 + 6) (ls' := [some (.ref 2099), some (.ref y1), some (.ref y2), some (.int (x3 + 6))]) C (jd jdt_Law_17 35 rfl) rfl rfl (by decide) rfl rfl) ?_
                                    refine J_mono (w_goto C (jd jdt_Law_17 36 rfl) rfl) ?_
                                    exact J_sub (ih (x3 + 6) M) ⟨rfl, rfl, rfl, rfl, trivial⟩
                                  · refine J_mono (w_iconst_0 C (jd jdt_Law_9 19 rfl)) ?_
                                    exact J_some (fun hx => hR 0 M hx _ _ (jd jdt_Law_9 20 rfl) rfl)
                                · refine J_ite (fun h111 => ?_) (fun h111 => ?_)
                                  · refine J_mono (w_tsw C h111 (jd jdt_Law_0 21 rfl) (by decide) (by decide) rfl rfl) ?_
                                    refine J_mono (w_aload_n C (jd jdt_Law_9 21 rfl) rfl) ?_
                                    refine J_mono (w_aload_n C (jd jdt_Law_9 22 rfl) rfl) ?_
                                    refine J_mono (w_iload_n C (jd jdt_Law_9 23 rfl) rfl) ?_
                                    refine J_mono (w_iconst_1 C (jd jdt_Law_9 24 rfl)) ?_
                                    refine J_mono (w_iadd C (jd jdt_Law_9 25 rfl)) ?_
                                    refine J_bind (fun v112 hv112 => ?_)
                                    refine J_mono (w_scr C hX hv112 (jd jdt_Law_9 26 rfl)) ?_
                                    refine J_mono (w_aload_n C (jd jdt_Law_9 27 rfl) rfl) ?_
                                    refine J_mono (w_iload_n C (jd jdt_Law_9 28 rfl) rfl) ?_
                                    refine J_mono (w_iconst_2 C (jd jdt_Law_9 29 rfl)) ?_
                                    refine J_mono (w_iadd C (jd jdt_Law_9 30 rfl)) ?_
                                    refine J_bind (fun v113 hv113 => ?_)
                                    refine J_mono (w_scr C hX hv113 (jd jdt_Law_9 31 rfl)) ?_
                                    refine J_bind (fun q114 hq114 => ?_)
                                    refine J_mono (jc_Law_72 C hcs hy1 (C_Sp_turning l G F y1 v112 v113 hy1 M hq114) rfl (Nat.le_trans (Nat.le_of_ble_eq_true rfl : 3 + 1 ≤ 1300) hD) (jd jdt_Law_9 32 rfl)) ?_
                                    refine J_mono (w_aload_n C (jd jdt_Law_9 33 rfl) rfl) ?_
                                    refine J_mono (w_aload_n C (jd jdt_Law_9 34 rfl) rfl) ?_
                                    refine J_mono (w_iload_n C (jd jdt_Law_9 35 rfl) rfl) ?_
                                    refine J_mono (w_iconst_1 C (jd jdt_Law_9 36 rfl)) ?_
                                    refine J_mono (w_iadd C (jd jdt_Law_9 37 rfl)) ?_
                                    refine J_bind (fun v115 hv115 => ?_)
                                    refine J_mono (w_scr C hX hv115 (jd jdt_Law_9 38 rfl)) ?_
                                    refine J_mono (w_aload_n C (jd jdt_Law_9 39 rfl) rfl) ?_
                                    refine J_mono (w_iload_n C (jd jdt_Law_10 0 rfl) rfl) ?_
                                    refine J_mono (w_iconst_2 C (jd jdt_Law_10 1 rfl)) ?_
                                    refine J_mono (w_iadd C (jd jdt_Law_10 2 rfl)) ?_
                                    refine J_bind (fun v116 hv116 => ?_)
                                    refine J_mono (w_scr C hX hv116 (jd jdt_Law_10 3 rfl)) ?_
                                    refine J_bind (fun q117 hq117 => ?_)
                                    refine J_mono (jc_Law_75 C hcs hy2 (C_Mo_turning l G F y2 v115 v116 hy2 M hq117) rfl (Nat.le_trans (Nat.le_of_ble_eq_true rfl : 3 + 1 ≤ 1300) hD) (jd jdt_Law_10 4 rfl)) ?_
                                    refine J_br (w_icmp_eq C (jd jdt_Law_10 5 rfl) rfl) (fun h118 => J_pos h118 ?_) (fun h118 => J_neg h118 ?_)
                                    · refine J_mono (w_iinc (v := x3 + 6) (ls' := [some (.ref 2099), some (.ref y1), some (.ref y2), some (.int (x3 + 6))]) C (jd jdt_Law_17 35 rfl) rfl rfl (by decide) rfl rfl) ?_
                                      refine J_mono (w_goto C (jd jdt_Law_17 36 rfl) rfl) ?_
                                      exact J_sub (ih (x3 + 6) M) ⟨rfl, rfl, rfl, rfl, trivial⟩
                                    · refine J_mono (w_iconst_0 C (jd jdt_Law_10 6 rfl)) ?_
                                      exact J_some (fun hx => hR 0 M hx _ _ (jd jdt_Law_10 7 rfl) rfl)
                                  · refine J_ite (fun h119 => ?_) (fun h119 => ?_)
                                    · refine J_mono (w_tsw C h119 (jd jdt_Law_0 21 rfl) (by decide) (by decide) rfl rfl) ?_
                                      refine J_mono (w_aload_n C (jd jdt_Law_10 8 rfl) rfl) ?_
                                      refine J_mono (w_aload_n C (jd jdt_Law_10 9 rfl) rfl) ?_
                                      refine J_mono (w_iload_n C (jd jdt_Law_10 10 rfl) rfl) ?_
                                      refine J_mono (w_iconst_1 C (jd jdt_Law_10 11 rfl)) ?_
                                      refine J_mono (w_iadd C (jd jdt_Law_10 12 rfl)) ?_
                                      refine J_bind (fun v120 hv120 => ?_)
                                      refine J_mono (w_scr C hX hv120 (jd jdt_Law_10 13 rfl)) ?_
                                      refine J_mono (w_aload_n C (jd jdt_Law_10 14 rfl) rfl) ?_
                                      refine J_mono (w_iload_n C (jd jdt_Law_10 15 rfl) rfl) ?_
                                      refine J_mono (w_iconst_2 C (jd jdt_Law_10 16 rfl)) ?_
                                      refine J_mono (w_iadd C (jd jdt_Law_10 17 rfl)) ?_
                                      refine J_bind (fun v121 hv121 => ?_)
                                      refine J_mono (w_scr C hX hv121 (jd jdt_Law_10 18 rfl)) ?_
                                      refine J_mono (w_aload_n C (jd jdt_Law_10 19 rfl) rfl) ?_
                                      refine J_mono (w_iload_n C (jd jdt_Law_10 20 rfl) rfl) ?_
                                      refine J_mono (w_iconst_3 C (jd jdt_Law_10 21 rfl)) ?_
                                      refine J_mono (w_iadd C (jd jdt_Law_10 22 rfl)) ?_
                                      refine J_bind (fun v122 hv122 => ?_)
                                      refine J_mono (w_scr C hX hv122 (jd jdt_Law_10 23 rfl)) ?_
                                      refine J_mono (w_aload_n C (jd jdt_Law_10 24 rfl) rfl) ?_
                                      refine J_mono (w_iload_n C (jd jdt_Law_10 25 rfl) rfl) ?_
                                      refine J_mono (w_iconst_4 C (jd jdt_Law_10 26 rfl)) ?_
                                      refine J_mono (w_iadd C (jd jdt_Law_10 27 rfl)) ?_
                                      refine J_bind (fun v123 hv123 => ?_)
                                      refine J_mono (w_scr C hX hv123 (jd jdt_Law_10 28 rfl)) ?_
                                      refine J_seq (fun (q124 : Int32) => Wk p l e R s m args below meth c G 4 Q 430 28833 jN0 (jce G M) 667 [some (.ref 2099), some (.ref y1), some (.ref y2), some (.int x3)] [.int q124, .int v122, .int v121, .int v120, .ref y1]) ?_ (fun q124 hq124 => ?_)
                                      · refine J_br (w_if_eq (y := 0) C (jd jdt_Law_10 29 rfl) rfl) (fun h125 => J_pos h125 ?_) (fun h125 => J_neg h125 ?_)
                                        · refine J_mono (w_iconst_0 C (jd jdt_Law_10 32 rfl)) ?_
                                          exact J_some (fun hx => Wk_sb hx ⟨rfl, rfl, rfl, rfl, trivial⟩)
                                        · refine J_mono (w_iconst_1 C (jd jdt_Law_10 30 rfl)) ?_
                                          refine J_mono (w_goto C (jd jdt_Law_10 31 rfl) rfl) ?_
                                          exact J_some (fun hx => Wk_sb hx ⟨rfl, rfl, rfl, rfl, trivial⟩)
                                      · refine J_bind (fun q126 hq126 => ?_)
                                        refine J_mono (jc_Law_76 C hcs hy1 (C_Sp_mark l G F y1 v120 v121 v122 q124 hy1 M hq126) rfl (Nat.le_trans (Nat.le_of_ble_eq_true rfl : 10 + 1 ≤ 1300) hD) (jd jdt_Law_10 33 rfl)) ?_
                                        refine J_mono (w_aload_n C (jd jdt_Law_10 34 rfl) rfl) ?_
                                        refine J_mono (w_aload_n C (jd jdt_Law_10 35 rfl) rfl) ?_
                                        refine J_mono (w_iload_n C (jd jdt_Law_10 36 rfl) rfl) ?_
                                        refine J_mono (w_iconst_1 C (jd jdt_Law_10 37 rfl)) ?_
                                        refine J_mono (w_iadd C (jd jdt_Law_10 38 rfl)) ?_
                                        refine J_bind (fun v127 hv127 => ?_)
                                        refine J_mono (w_scr C hX hv127 (jd jdt_Law_10 39 rfl)) ?_
                                        refine J_mono (w_aload_n C (jd jdt_Law_11 0 rfl) rfl) ?_
                                        refine J_mono (w_iload_n C (jd jdt_Law_11 1 rfl) rfl) ?_
                                        refine J_mono (w_iconst_2 C (jd jdt_Law_11 2 rfl)) ?_
                                        refine J_mono (w_iadd C (jd jdt_Law_11 3 rfl)) ?_
                                        refine J_bind (fun v128 hv128 => ?_)
                                        refine J_mono (w_scr C hX hv128 (jd jdt_Law_11 4 rfl)) ?_
                                        refine J_mono (w_aload_n C (jd jdt_Law_11 5 rfl) rfl) ?_
                                        refine J_mono (w_iload_n C (jd jdt_Law_11 6 rfl) rfl) ?_
                                        refine J_mono (w_iconst_3 C (jd jdt_Law_11 7 rfl)) ?_
                                        refine J_mono (w_iadd C (jd jdt_Law_11 8 rfl)) ?_
                                        refine J_bind (fun v129 hv129 => ?_)
                                        refine J_mono (w_scr C hX hv129 (jd jdt_Law_11 9 rfl)) ?_
                                        refine J_mono (w_aload_n C (jd jdt_Law_11 10 rfl) rfl) ?_
                                        refine J_mono (w_iload_n C (jd jdt_Law_11 11 rfl) rfl) ?_
                                        refine J_mono (w_iconst_4 C (jd jdt_Law_11 12 rfl)) ?_
                                        refine J_mono (w_iadd C (jd jdt_Law_11 13 rfl)) ?_
                                        refine J_bind (fun v130 hv130 => ?_)
                                        refine J_mono (w_scr C hX hv130 (jd jdt_Law_11 14 rfl)) ?_
                                        refine J_seq (fun (q131 : Int32) => Wk p l e R s m args below meth c G 4 Q 430 28833 jN0 (jce G q126.2) 699 [some (.ref 2099), some (.ref y1), some (.ref y2), some (.int x3)] [.int q131, .int v129, .int v128, .int v127, .ref y2, .int q126.1]) ?_ (fun q131 hq131 => ?_)
                                        · refine J_br (w_if_eq (y := 0) C (jd jdt_Law_11 15 rfl) rfl) (fun h132 => J_pos h132 ?_) (fun h132 => J_neg h132 ?_)
                                          · refine J_mono (w_iconst_0 C (jd jdt_Law_11 18 rfl)) ?_
                                            exact J_some (fun hx => Wk_sb hx ⟨rfl, rfl, rfl, rfl, trivial⟩)
                                          · refine J_mono (w_iconst_1 C (jd jdt_Law_11 16 rfl)) ?_
                                            refine J_mono (w_goto C (jd jdt_Law_11 17 rfl) rfl) ?_
                                            exact J_some (fun hx => Wk_sb hx ⟨rfl, rfl, rfl, rfl, trivial⟩)
                                        · refine J_bind (fun q133 hq133 => ?_)
                                          refine J_mono (jc_Law_80 C hcs hy2 (C_Mo_mark l G F y2 v127 v128 v129 q131 hy2 q126.2 hq133) rfl (Nat.le_trans (Nat.le_of_ble_eq_true rfl : 6 + 1 ≤ 1300) hD) (jd jdt_Law_11 19 rfl)) ?_
                                          refine J_br (w_icmp_eq C (jd jdt_Law_11 20 rfl) rfl) (fun h134 => J_pos h134 ?_) (fun h134 => J_neg h134 ?_)
                                          · refine J_mono (w_iinc (v := x3 + 6) (ls' := [some (.ref 2099), some (.ref y1), some (.ref y2), some (.int (x3 + 6))]) C (jd jdt_Law_17 35 rfl) rfl rfl (by decide) rfl rfl) ?_
                                            refine J_mono (w_goto C (jd jdt_Law_17 36 rfl) rfl) ?_
                                            exact J_sub (ih (x3 + 6) q133.2) ⟨rfl, rfl, rfl, rfl, trivial⟩
                                          · refine J_mono (w_iconst_0 C (jd jdt_Law_11 21 rfl)) ?_
                                            exact J_some (fun hx => hR 0 q133.2 hx _ _ (jd jdt_Law_11 22 rfl) rfl)
                                    · refine J_ite (fun h135 => ?_) (fun h135 => ?_)
                                      · refine J_mono (w_tsw C h135 (jd jdt_Law_0 21 rfl) (by decide) (by decide) rfl rfl) ?_
                                        refine J_mono (w_aload_n C (jd jdt_Law_11 23 rfl) rfl) ?_
                                        refine J_mono (w_aload_n C (jd jdt_Law_11 24 rfl) rfl) ?_
                                        refine J_mono (w_iload_n C (jd jdt_Law_11 25 rfl) rfl) ?_
                                        refine J_mono (w_iconst_1 C (jd jdt_Law_11 26 rfl)) ?_
                                        refine J_mono (w_iadd C (jd jdt_Law_11 27 rfl)) ?_
                                        refine J_bind (fun v136 hv136 => ?_)
                                        refine J_mono (w_scr C hX hv136 (jd jdt_Law_11 28 rfl)) ?_
                                        refine J_bind (fun q137 hq137 => ?_)
                                        refine J_mono (jc_Law_81 C hcs hy1 (C_Sp_teach l G F y1 v136 hy1 M hq137) rfl (Nat.le_trans (Nat.le_of_ble_eq_true rfl : 50 + 1 ≤ 1300) hD) (jd jdt_Law_11 29 rfl)) ?_
                                        refine J_mono (w_aload_n C (jd jdt_Law_11 30 rfl) rfl) ?_
                                        refine J_mono (w_aload_n C (jd jdt_Law_11 31 rfl) rfl) ?_
                                        refine J_mono (w_iload_n C (jd jdt_Law_11 32 rfl) rfl) ?_
                                        refine J_mono (w_iconst_1 C (jd jdt_Law_11 33 rfl)) ?_
                                        refine J_mono (w_iadd C (jd jdt_Law_11 34 rfl)) ?_
                                        refine J_bind (fun v138 hv138 => ?_)
                                        refine J_mono (w_scr C hX hv138 (jd jdt_Law_11 35 rfl)) ?_
                                        refine J_bind (fun q139 hq139 => ?_)
                                        refine J_mono (jc_Law_84 C hcs hy2 (C_Mo_teach l G F y2 v138 hy2 q137.2 hq139) rfl (Nat.le_trans (Nat.le_of_ble_eq_true rfl : 8 + 1 ≤ 1300) hD) (jd jdt_Law_11 36 rfl)) ?_
                                        refine J_br (w_icmp_eq C (jd jdt_Law_11 37 rfl) rfl) (fun h140 => J_pos h140 ?_) (fun h140 => J_neg h140 ?_)
                                        · refine J_mono (w_iinc (v := x3 + 6) (ls' := [some (.ref 2099), some (.ref y1), some (.ref y2), some (.int (x3 + 6))]) C (jd jdt_Law_17 35 rfl) rfl rfl (by decide) rfl rfl) ?_
                                          refine J_mono (w_goto C (jd jdt_Law_17 36 rfl) rfl) ?_
                                          exact J_sub (ih (x3 + 6) q139.2) ⟨rfl, rfl, rfl, rfl, trivial⟩
                                        · refine J_mono (w_iconst_0 C (jd jdt_Law_11 38 rfl)) ?_
                                          exact J_some (fun hx => hR 0 q139.2 hx _ _ (jd jdt_Law_11 39 rfl) rfl)
                                      · refine J_ite (fun h141 => ?_) (fun h141 => ?_)
                                        · refine J_mono (w_tsw C h141 (jd jdt_Law_0 21 rfl) (by decide) (by decide) rfl rfl) ?_
                                          refine J_mono (w_aload_n C (jd jdt_Law_12 0 rfl) rfl) ?_
                                          refine J_bind (fun q142 hq142 => ?_)
                                          refine J_mono (jc_Law_85 C hcs hy1 (C_Sp_undo l G F y1 hy1 M hq142) rfl (Nat.le_trans (Nat.le_of_ble_eq_true rfl : 10 + 1 ≤ 1300) hD) (jd jdt_Law_12 1 rfl)) ?_
                                          refine J_mono (w_aload_n C (jd jdt_Law_12 2 rfl) rfl) ?_
                                          refine J_bind (fun q143 hq143 => ?_)
                                          refine J_mono (jc_Law_89 C hcs hy2 (C_Mo_undo l G F y2 hy2 q142.2 hq143) rfl (Nat.le_trans (Nat.le_of_ble_eq_true rfl : 6 + 1 ≤ 1300) hD) (jd jdt_Law_12 3 rfl)) ?_
                                          refine J_br (w_icmp_eq C (jd jdt_Law_12 4 rfl) rfl) (fun h144 => J_pos h144 ?_) (fun h144 => J_neg h144 ?_)
                                          · refine J_mono (w_iinc (v := x3 + 6) (ls' := [some (.ref 2099), some (.ref y1), some (.ref y2), some (.int (x3 + 6))]) C (jd jdt_Law_17 35 rfl) rfl rfl (by decide) rfl rfl) ?_
                                            refine J_mono (w_goto C (jd jdt_Law_17 36 rfl) rfl) ?_
                                            exact J_sub (ih (x3 + 6) q143.2) ⟨rfl, rfl, rfl, rfl, trivial⟩
                                          · refine J_mono (w_iconst_0 C (jd jdt_Law_12 5 rfl)) ?_
                                            exact J_some (fun hx => hR 0 q143.2 hx _ _ (jd jdt_Law_12 6 rfl) rfl)
                                        · refine J_ite (fun h145 => ?_) (fun h145 => ?_)
                                          · refine J_mono (w_tsw C h145 (jd jdt_Law_0 21 rfl) (by decide) (by decide) rfl rfl) ?_
                                            refine J_mono (w_aload_n C (jd jdt_Law_12 7 rfl) rfl) ?_
                                            refine J_mono (w_aload_n C (jd jdt_Law_12 8 rfl) rfl) ?_
                                            refine J_mono (w_iload_n C (jd jdt_Law_12 9 rfl) rfl) ?_
                                            refine J_mono (w_iconst_1 C (jd jdt_Law_12 10 rfl)) ?_
                                            refine J_mono (w_iadd C (jd jdt_Law_12 11 rfl)) ?_
                                            refine J_bind (fun v146 hv146 => ?_)
                                            refine J_mono (w_scr C hX hv146 (jd jdt_Law_12 12 rfl)) ?_
                                            refine J_mono (w_aload_n C (jd jdt_Law_12 13 rfl) rfl) ?_
                                            refine J_mono (w_iload_n C (jd jdt_Law_12 14 rfl) rfl) ?_
                                            refine J_mono (w_iconst_2 C (jd jdt_Law_12 15 rfl)) ?_
                                            refine J_mono (w_iadd C (jd jdt_Law_12 16 rfl)) ?_
                                            refine J_bind (fun v147 hv147 => ?_)
                                            refine J_mono (w_scr C hX hv147 (jd jdt_Law_12 17 rfl)) ?_
                                            refine J_mono (w_aload_n C (jd jdt_Law_12 18 rfl) rfl) ?_
                                            refine J_mono (w_iload_n C (jd jdt_Law_12 19 rfl) rfl) ?_
                                            refine J_mono (w_iconst_3 C (jd jdt_Law_12 20 rfl)) ?_
                                            refine J_mono (w_iadd C (jd jdt_Law_12 21 rfl)) ?_
                                            refine J_bind (fun v148 hv148 => ?_)
                                            refine J_mono (w_scr C hX hv148 (jd jdt_Law_12 22 rfl)) ?_
                                            refine J_bind (fun q149 hq149 => ?_)
                                            refine J_mono (jc_Law_90 C hcs hy1 (C_Sp_stop l G F y1 v146 v147 v148 hy1 M hq149) rfl (Nat.le_trans (Nat.le_of_ble_eq_true rfl : 11 + 1 ≤ 1300) hD) (jd jdt_Law_12 23 rfl)) ?_
                                            refine J_mono (w_aload_n C (jd jdt_Law_12 24 rfl) rfl) ?_
                                            refine J_mono (w_aload_n C (jd jdt_Law_12 25 rfl) rfl) ?_
                                            refine J_mono (w_iload_n C (jd jdt_Law_12 26 rfl) rfl) ?_
                                            refine J_mono (w_iconst_1 C (jd jdt_Law_12 27 rfl)) ?_
                                            refine J_mono (w_iadd C (jd jdt_Law_12 28 rfl)) ?_
                                            refine J_bind (fun v150 hv150 => ?_)
                                            refine J_mono (w_scr C hX hv150 (jd jdt_Law_12 29 rfl)) ?_
                                            refine J_mono (w_aload_n C (jd jdt_Law_12 30 rfl) rfl) ?_
                                            refine J_mono (w_iload_n C (jd jdt_Law_12 31 rfl) rfl) ?_
                                            refine J_mono (w_iconst_2 C (jd jdt_Law_12 32 rfl)) ?_
                                            refine J_mono (w_iadd C (jd jdt_Law_12 33 rfl)) ?_
                                            refine J_bind (fun v151 hv151 => ?_)
                                            refine J_mono (w_scr C hX hv151 (jd jdt_Law_12 34 rfl)) ?_
                                            refine J_mono (w_aload_n C (jd jdt_Law_12 35 rfl) rfl) ?_
                                            refine J_mono (w_iload_n C (jd jdt_Law_12 36 rfl) rfl) ?_
                                            refine J_mono (w_iconst_3 C (jd jdt_Law_12 37 rfl)) ?_
                                            refine J_mono (w_iadd C (jd jdt_Law_12 38 rfl)) ?_
                                            refine J_bind (fun v152 hv152 => ?_)
                                            refine J_mono (w_scr C hX hv152 (jd jdt_Law_12 39 rfl)) ?_
                                            refine J_bind (fun q153 hq153 => ?_)
                                            refine J_mono (jc_Law_93 C hcs hy2 (C_Mo_stop l G F y2 v150 v151 v152 hy2 q149.2 hq153) rfl (Nat.le_trans (Nat.le_of_ble_eq_true rfl : 9 + 1 ≤ 1300) hD) (jd jdt_Law_13 0 rfl)) ?_
                                            refine J_br (w_icmp_eq C (jd jdt_Law_13 1 rfl) rfl) (fun h154 => J_pos h154 ?_) (fun h154 => J_neg h154 ?_)
                                            · refine J_mono (w_iinc (v := x3 + 6) (ls' := [some (.ref 2099), some (.ref y1), some (.ref y2), some (.int (x3 + 6))]) C (jd jdt_Law_17 35 rfl) rfl rfl (by decide) rfl rfl) ?_
                                              refine J_mono (w_goto C (jd jdt_Law_17 36 rfl) rfl) ?_
                                              exact J_sub (ih (x3 + 6) q153.2) ⟨rfl, rfl, rfl, rfl, trivial⟩
                                            · refine J_mono (w_iconst_0 C (jd jdt_Law_13 2 rfl)) ?_
                                              exact J_some (fun hx => hR 0 q153.2 hx _ _ (jd jdt_Law_13 3 rfl) rfl)
                                          · refine J_ite (fun h155 => ?_) (fun h155 => ?_)
                                            · refine J_mono (w_tsw C h155 (jd jdt_Law_0 21 rfl) (by decide) (by decide) rfl rfl) ?_
                                              refine J_mono (w_aload_n C (jd jdt_Law_13 4 rfl) rfl) ?_
                                              refine J_mono (w_aload_n C (jd jdt_Law_13 5 rfl) rfl) ?_
                                              refine J_mono (w_iload_n C (jd jdt_Law_13 6 rfl) rfl) ?_
                                              refine J_mono (w_iconst_1 C (jd jdt_Law_13 7 rfl)) ?_
                                              refine J_mono (w_iadd C (jd jdt_Law_13 8 rfl)) ?_
                                              refine J_bind (fun v156 hv156 => ?_)
                                              refine J_mono (w_scr C hX hv156 (jd jdt_Law_13 9 rfl)) ?_
                                              refine J_mono (w_aload_n C (jd jdt_Law_13 10 rfl) rfl) ?_
                                              refine J_mono (w_iload_n C (jd jdt_Law_13 11 rfl) rfl) ?_
                                              refine J_mono (w_iconst_2 C (jd jdt_Law_13 12 rfl)) ?_
                                              refine J_mono (w_iadd C (jd jdt_Law_13 13 rfl)) ?_
                                              refine J_bind (fun v157 hv157 => ?_)
                                              refine J_mono (w_scr C hX hv157 (jd jdt_Law_13 14 rfl)) ?_
                                              refine J_mono (w_aload_n C (jd jdt_Law_13 15 rfl) rfl) ?_
                                              refine J_mono (w_iload_n C (jd jdt_Law_13 16 rfl) rfl) ?_
                                              refine J_mono (w_iconst_3 C (jd jdt_Law_13 17 rfl)) ?_
                                              refine J_mono (w_iadd C (jd jdt_Law_13 18 rfl)) ?_
                                              refine J_bind (fun v158 hv158 => ?_)
                                              refine J_mono (w_scr C hX hv158 (jd jdt_Law_13 19 rfl)) ?_
                                              refine J_bind (fun q159 hq159 => ?_)
                                              refine J_mono (jc_Law_94 C hcs hy1 (C_Sp_bring l G F y1 v156 v157 v158 hy1 M hq159) rfl (Nat.le_trans (Nat.le_of_ble_eq_true rfl : 11 + 1 ≤ 1300) hD) (jd jdt_Law_13 20 rfl)) ?_
                                              refine J_mono (w_aload_n C (jd jdt_Law_13 21 rfl) rfl) ?_
                                              refine J_mono (w_aload_n C (jd jdt_Law_13 22 rfl) rfl) ?_
                                              refine J_mono (w_iload_n C (jd jdt_Law_13 23 rfl) rfl) ?_
                                              refine J_mono (w_iconst_1 C (jd jdt_Law_13 24 rfl)) ?_
                                              refine J_mono (w_iadd C (jd jdt_Law_13 25 rfl)) ?_
                                              refine J_bind (fun v160 hv160 => ?_)
                                              refine J_mono (w_scr C hX hv160 (jd jdt_Law_13 26 rfl)) ?_
                                              refine J_mono (w_aload_n C (jd jdt_Law_13 27 rfl) rfl) ?_
                                              refine J_mono (w_iload_n C (jd jdt_Law_13 28 rfl) rfl) ?_
                                              refine J_mono (w_iconst_2 C (jd jdt_Law_13 29 rfl)) ?_
                                              refine J_mono (w_iadd C (jd jdt_Law_13 30 rfl)) ?_
                                              refine J_bind (fun v161 hv161 => ?_)
                                              refine J_mono (w_scr C hX hv161 (jd jdt_Law_13 31 rfl)) ?_
                                              refine J_mono (w_aload_n C (jd jdt_Law_13 32 rfl) rfl) ?_
                                              refine J_mono (w_iload_n C (jd jdt_Law_13 33 rfl) rfl) ?_
                                              refine J_mono (w_iconst_3 C (jd jdt_Law_13 34 rfl)) ?_
                                              refine J_mono (w_iadd C (jd jdt_Law_13 35 rfl)) ?_
                                              refine J_bind (fun v162 hv162 => ?_)
                                              refine J_mono (w_scr C hX hv162 (jd jdt_Law_13 36 rfl)) ?_
                                              refine J_bind (fun q163 hq163 => ?_)
                                              refine J_mono (jc_Law_97 C hcs hy2 (C_Mo_bring l G F y2 v160 v161 v162 hy2 q159.2 hq163) rfl (Nat.le_trans (Nat.le_of_ble_eq_true rfl : 9 + 1 ≤ 1300) hD) (jd jdt_Law_13 37 rfl)) ?_
                                              refine J_br (w_icmp_eq C (jd jdt_Law_13 38 rfl) rfl) (fun h164 => J_pos h164 ?_) (fun h164 => J_neg h164 ?_)
                                              · refine J_mono (w_iinc (v := x3 + 6) (ls' := [some (.ref 2099), some (.ref y1), some (.ref y2), some (.int (x3 + 6))]) C (jd jdt_Law_17 35 rfl) rfl rfl (by decide) rfl rfl) ?_
                                                refine J_mono (w_goto C (jd jdt_Law_17 36 rfl) rfl) ?_
                                                exact J_sub (ih (x3 + 6) q163.2) ⟨rfl, rfl, rfl, rfl, trivial⟩
                                              · refine J_mono (w_iconst_0 C (jd jdt_Law_13 39 rfl)) ?_
                                                exact J_some (fun hx => hR 0 q163.2 hx _ _ (jd jdt_Law_14 0 rfl) rfl)
                                            · refine J_ite (fun h165 => ?_) (fun h165 => ?_)
                                              · refine J_mono (w_tsw C h165 (jd jdt_Law_0 21 rfl) (by decide) (by decide) rfl rfl) ?_
                                                refine J_mono (w_aload_n C (jd jdt_Law_14 1 rfl) rfl) ?_
                                                refine J_bind (fun q166 hq166 => ?_)
                                                refine J_mono (jc_Law_98 C hcs hy1 (C_Sp_wet l G F y1 hy1 M hq166) rfl (Nat.le_trans (Nat.le_of_ble_eq_true rfl : 2 + 1 ≤ 1300) hD) (jd jdt_Law_14 2 rfl)) ?_
                                                refine J_mono (w_aload_n C (jd jdt_Law_14 3 rfl) rfl) ?_
                                                refine J_bind (fun q167 hq167 => ?_)
                                                refine J_mono (jc_Law_101 C hcs hy2 (C_Mo_wet l G F y2 hy2 q166.2 hq167) rfl (Nat.le_trans (Nat.le_of_ble_eq_true rfl : 1 + 1 ≤ 1300) hD) (jd jdt_Law_14 4 rfl)) ?_
                                                refine J_br (w_icmp_eq C (jd jdt_Law_14 5 rfl) rfl) (fun h168 => J_pos h168 ?_) (fun h168 => J_neg h168 ?_)
                                                · refine J_mono (w_iinc (v := x3 + 6) (ls' := [some (.ref 2099), some (.ref y1), some (.ref y2), some (.int (x3 + 6))]) C (jd jdt_Law_17 35 rfl) rfl rfl (by decide) rfl rfl) ?_
                                                  refine J_mono (w_goto C (jd jdt_Law_17 36 rfl) rfl) ?_
                                                  exact J_sub (ih (x3 + 6) q167.2) ⟨rfl, rfl, rfl, rfl, trivial⟩
                                                · refine J_mono (w_iconst_0 C (jd jdt_Law_14 6 rfl)) ?_
                                                  exact J_some (fun hx => hR 0 q167.2 hx _ _ (jd jdt_Law_14 7 rfl) rfl)
                                              · refine J_ite (fun h169 => ?_) (fun h169 => ?_)
                                                · refine J_mono (w_tsw C h169 (jd jdt_Law_0 21 rfl) (by decide) (by decide) rfl rfl) ?_
                                                  refine J_mono (w_aload_n C (jd jdt_Law_14 8 rfl) rfl) ?_
                                                  refine J_mono (w_aload_n C (jd jdt_Law_14 9 rfl) rfl) ?_
                                                  refine J_mono (w_iload_n C (jd jdt_Law_14 10 rfl) rfl) ?_
                                                  refine J_mono (w_iconst_1 C (jd jdt_Law_14 11 rfl)) ?_
                                                  refine J_mono (w_iadd C (jd jdt_Law_14 12 rfl)) ?_
                                                  refine J_bind (fun v170 hv170 => ?_)
                                                  refine J_mono (w_scr C hX hv170 (jd jdt_Law_14 13 rfl)) ?_
                                                  refine J_mono (w_aload_n C (jd jdt_Law_14 14 rfl) rfl) ?_
                                                  refine J_mono (w_iload_n C (jd jdt_Law_14 15 rfl) rfl) ?_
                                                  refine J_mono (w_iconst_2 C (jd jdt_Law_14 16 rfl)) ?_
                                                  refine J_mono (w_iadd C (jd jdt_Law_14 17 rfl)) ?_
                                                  refine J_bind (fun v171 hv171 => ?_)
                                                  refine J_mono (w_scr C hX hv171 (jd jdt_Law_14 18 rfl)) ?_
                                                  refine J_bind (fun q172 hq172 => ?_)
                                                  refine J_mono (jc_Law_102 C hcs hy1 (C_Sp_early l G F y1 v170 v171 hy1 M hq172) rfl (Nat.le_trans (Nat.le_of_ble_eq_true rfl : 10 + 1 ≤ 1300) hD) (jd jdt_Law_14 19 rfl)) ?_
                                                  refine J_mono (w_aload_n C (jd jdt_Law_14 20 rfl) rfl) ?_
                                                  refine J_mono (w_aload_n C (jd jdt_Law_14 21 rfl) rfl) ?_
                                                  refine J_mono (w_iload_n C (jd jdt_Law_14 22 rfl) rfl) ?_
                                                  refine J_mono (w_iconst_1 C (jd jdt_Law_14 23 rfl)) ?_
                                                  refine J_mono (w_iadd C (jd jdt_Law_14 24 rfl)) ?_
                                                  refine J_bind (fun v173 hv173 => ?_)
                                                  refine J_mono (w_scr C hX hv173 (jd jdt_Law_14 25 rfl)) ?_
                                                  refine J_mono (w_aload_n C (jd jdt_Law_14 26 rfl) rfl) ?_
                                                  refine J_mono (w_iload_n C (jd jdt_Law_14 27 rfl) rfl) ?_
                                                  refine J_mono (w_iconst_2 C (jd jdt_Law_14 28 rfl)) ?_
                                                  refine J_mono (w_iadd C (jd jdt_Law_14 29 rfl)) ?_
                                                  refine J_bind (fun v174 hv174 => ?_)
                                                  refine J_mono (w_scr C hX hv174 (jd jdt_Law_14 30 rfl)) ?_
                                                  refine J_bind (fun q175 hq175 => ?_)
                                                  refine J_mono (jc_Law_105 C hcs hy2 (C_Mo_early l G F y2 v173 v174 hy2 q172.2 hq175) rfl (Nat.le_trans (Nat.le_of_ble_eq_true rfl : 7 + 1 ≤ 1300) hD) (jd jdt_Law_14 31 rfl)) ?_
                                                  refine J_br (w_icmp_eq C (jd jdt_Law_14 32 rfl) rfl) (fun h176 => J_pos h176 ?_) (fun h176 => J_neg h176 ?_)
                                                  · refine J_mono (w_iinc (v := x3 + 6) (ls' := [some (.ref 2099), some (.ref y1), some (.ref y2), some (.int (x3 + 6))]) C (jd jdt_Law_17 35 rfl) rfl rfl (by decide) rfl rfl) ?_
                                                    refine J_mono (w_goto C (jd jdt_Law_17 36 rfl) rfl) ?_
                                                    exact J_sub (ih (x3 + 6) q175.2) ⟨rfl, rfl, rfl, rfl, trivial⟩
                                                  · refine J_mono (w_iconst_0 C (jd jdt_Law_14 33 rfl)) ?_
                                                    exact J_some (fun hx => hR 0 q175.2 hx _ _ (jd jdt_Law_14 34 rfl) rfl)
                                                · refine J_ite (fun h177 => ?_) (fun h177 => ?_)
                                                  · refine J_mono (w_tsw C h177 (jd jdt_Law_0 21 rfl) (by decide) (by decide) rfl rfl) ?_
                                                    refine J_mono (w_aload_n C (jd jdt_Law_14 35 rfl) rfl) ?_
                                                    refine J_mono (w_aload_n C (jd jdt_Law_14 36 rfl) rfl) ?_
                                                    refine J_mono (w_iload_n C (jd jdt_Law_14 37 rfl) rfl) ?_
                                                    refine J_mono (w_iconst_1 C (jd jdt_Law_14 38 rfl)) ?_
                                                    refine J_mono (w_iadd C (jd jdt_Law_14 39 rfl)) ?_
                                                    refine J_bind (fun v178 hv178 => ?_)
                                                    refine J_mono (w_scr C hX hv178 (jd jdt_Law_15 0 rfl)) ?_
                                                    refine J_mono (w_aload_n C (jd jdt_Law_15 1 rfl) rfl) ?_
                                                    refine J_mono (w_iload_n C (jd jdt_Law_15 2 rfl) rfl) ?_
                                                    refine J_mono (w_iconst_2 C (jd jdt_Law_15 3 rfl)) ?_
                                                    refine J_mono (w_iadd C (jd jdt_Law_15 4 rfl)) ?_
                                                    refine J_bind (fun v179 hv179 => ?_)
                                                    refine J_mono (w_scr C hX hv179 (jd jdt_Law_15 5 rfl)) ?_
                                                    refine J_bind (fun q180 hq180 => ?_)
                                                    refine J_mono (jc_Law_106 C hcs hy1 (C_Sp_encore l G F y1 v178 v179 hy1 M hq180) rfl (Nat.le_trans (Nat.le_of_ble_eq_true rfl : 9 + 1 ≤ 1300) hD) (jd jdt_Law_15 6 rfl)) ?_
                                                    refine J_mono (w_aload_n C (jd jdt_Law_15 7 rfl) rfl) ?_
                                                    refine J_mono (w_aload_n C (jd jdt_Law_15 8 rfl) rfl) ?_
                                                    refine J_mono (w_iload_n C (jd jdt_Law_15 9 rfl) rfl) ?_
                                                    refine J_mono (w_iconst_1 C (jd jdt_Law_15 10 rfl)) ?_
                                                    refine J_mono (w_iadd C (jd jdt_Law_15 11 rfl)) ?_
                                                    refine J_bind (fun v181 hv181 => ?_)
                                                    refine J_mono (w_scr C hX hv181 (jd jdt_Law_15 12 rfl)) ?_
                                                    refine J_mono (w_aload_n C (jd jdt_Law_15 13 rfl) rfl) ?_
                                                    refine J_mono (w_iload_n C (jd jdt_Law_15 14 rfl) rfl) ?_
                                                    refine J_mono (w_iconst_2 C (jd jdt_Law_15 15 rfl)) ?_
                                                    refine J_mono (w_iadd C (jd jdt_Law_15 16 rfl)) ?_
                                                    refine J_bind (fun v182 hv182 => ?_)
                                                    refine J_mono (w_scr C hX hv182 (jd jdt_Law_15 17 rfl)) ?_
                                                    refine J_bind (fun q183 hq183 => ?_)
                                                    refine J_mono (jc_Law_109 C hcs hy2 (C_Mo_encore l G F y2 v181 v182 hy2 q180.2 hq183) rfl (Nat.le_trans (Nat.le_of_ble_eq_true rfl : 5 + 1 ≤ 1300) hD) (jd jdt_Law_15 18 rfl)) ?_
                                                    refine J_br (w_icmp_eq C (jd jdt_Law_15 19 rfl) rfl) (fun h184 => J_pos h184 ?_) (fun h184 => J_neg h184 ?_)
                                                    · refine J_mono (w_iinc (v := x3 + 6) (ls' := [some (.ref 2099), some (.ref y1), some (.ref y2), some (.int (x3 + 6))]) C (jd jdt_Law_17 35 rfl) rfl rfl (by decide) rfl rfl) ?_
                                                      refine J_mono (w_goto C (jd jdt_Law_17 36 rfl) rfl) ?_
                                                      exact J_sub (ih (x3 + 6) q183.2) ⟨rfl, rfl, rfl, rfl, trivial⟩
                                                    · refine J_mono (w_iconst_0 C (jd jdt_Law_15 20 rfl)) ?_
                                                      exact J_some (fun hx => hR 0 q183.2 hx _ _ (jd jdt_Law_15 21 rfl) rfl)
                                                  · refine J_ite (fun h185 => ?_) (fun h185 => ?_)
                                                    · refine J_mono (w_tsw C h185 (jd jdt_Law_0 21 rfl) (by decide) (by decide) rfl rfl) ?_
                                                      refine J_mono (w_aload_n C (jd jdt_Law_15 22 rfl) rfl) ?_
                                                      refine J_mono (w_aload_n C (jd jdt_Law_15 23 rfl) rfl) ?_
                                                      refine J_mono (w_iload_n C (jd jdt_Law_15 24 rfl) rfl) ?_
                                                      refine J_mono (w_iconst_1 C (jd jdt_Law_15 25 rfl)) ?_
                                                      refine J_mono (w_iadd C (jd jdt_Law_15 26 rfl)) ?_
                                                      refine J_bind (fun v186 hv186 => ?_)
                                                      refine J_mono (w_scr C hX hv186 (jd jdt_Law_15 27 rfl)) ?_
                                                      refine J_mono (w_aload_n C (jd jdt_Law_15 28 rfl) rfl) ?_
                                                      refine J_mono (w_iload_n C (jd jdt_Law_15 29 rfl) rfl) ?_
                                                      refine J_mono (w_iconst_2 C (jd jdt_Law_15 30 rfl)) ?_
                                                      refine J_mono (w_iadd C (jd jdt_Law_15 31 rfl)) ?_
                                                      refine J_bind (fun v187 hv187 => ?_)
                                                      refine J_mono (w_scr C hX hv187 (jd jdt_Law_15 32 rfl)) ?_
                                                      refine J_mono (w_aload_n C (jd jdt_Law_15 33 rfl) rfl) ?_
                                                      refine J_mono (w_iload_n C (jd jdt_Law_15 34 rfl) rfl) ?_
                                                      refine J_mono (w_iconst_3 C (jd jdt_Law_15 35 rfl)) ?_
                                                      refine J_mono (w_iadd C (jd jdt_Law_15 36 rfl)) ?_
                                                      refine J_bind (fun v188 hv188 => ?_)
                                                      refine J_mono (w_scr C hX hv188 (jd jdt_Law_15 37 rfl)) ?_
                                                      refine J_bind (fun q189 hq189 => ?_)
                                                      refine J_mono (jc_Law_110 C hcs hy1 (C_Sp_trout l G F y1 v186 v187 v188 hy1 M hq189) rfl (Nat.le_trans (Nat.le_of_ble_eq_true rfl : 4 + 1 ≤ 1300) hD) (jd jdt_Law_15 38 rfl)) ?_
                                                      refine J_mono (w_aload_n C (jd jdt_Law_15 39 rfl) rfl) ?_
                                                      refine J_mono (w_aload_n C (jd jdt_Law_16 0 rfl) rfl) ?_
                                                      refine J_mono (w_iload_n C (jd jdt_Law_16 1 rfl) rfl) ?_
                                                      refine J_mono (w_iconst_1 C (jd jdt_Law_16 2 rfl)) ?_
                                                      refine J_mono (w_iadd C (jd jdt_Law_16 3 rfl)) ?_
                                                      refine J_bind (fun v190 hv190 => ?_)
                                                      refine J_mono (w_scr C hX hv190 (jd jdt_Law_16 4 rfl)) ?_
                                                      refine J_mono (w_aload_n C (jd jdt_Law_16 5 rfl) rfl) ?_
                                                      refine J_mono (w_iload_n C (jd jdt_Law_16 6 rfl) rfl) ?_
                                                      refine J_mono (w_iconst_2 C (jd jdt_Law_16 7 rfl)) ?_
                                                      refine J_mono (w_iadd C (jd jdt_Law_16 8 rfl)) ?_
                                                      refine J_bind (fun v191 hv191 => ?_)
                                                      refine J_mono (w_scr C hX hv191 (jd jdt_Law_16 9 rfl)) ?_
                                                      refine J_mono (w_aload_n C (jd jdt_Law_16 10 rfl) rfl) ?_
                                                      refine J_mono (w_iload_n C (jd jdt_Law_16 11 rfl) rfl) ?_
                                                      refine J_mono (w_iconst_3 C (jd jdt_Law_16 12 rfl)) ?_
                                                      refine J_mono (w_iadd C (jd jdt_Law_16 13 rfl)) ?_
                                                      refine J_bind (fun v192 hv192 => ?_)
                                                      refine J_mono (w_scr C hX hv192 (jd jdt_Law_16 14 rfl)) ?_
                                                      refine J_bind (fun q193 hq193 => ?_)
                                                      refine J_mono (jc_Law_113 C hcs hy2 (C_Mo_trout l G F y2 v190 v191 v192 hy2 q189.2 hq193) rfl (Nat.le_trans (Nat.le_of_ble_eq_true rfl : 4 + 1 ≤ 1300) hD) (jd jdt_Law_16 15 rfl)) ?_
                                                      refine J_br (w_icmp_eq C (jd jdt_Law_16 16 rfl) rfl) (fun h194 => J_pos h194 ?_) (fun h194 => J_neg h194 ?_)
                                                      · refine J_mono (w_iinc (v := x3 + 6) (ls' := [some (.ref 2099), some (.ref y1), some (.ref y2), some (.int (x3 + 6))]) C (jd jdt_Law_17 35 rfl) rfl rfl (by decide) rfl rfl) ?_
                                                        refine J_mono (w_goto C (jd jdt_Law_17 36 rfl) rfl) ?_
                                                        exact J_sub (ih (x3 + 6) q193.2) ⟨rfl, rfl, rfl, rfl, trivial⟩
                                                      · refine J_mono (w_iconst_0 C (jd jdt_Law_16 17 rfl)) ?_
                                                        exact J_some (fun hx => hR 0 q193.2 hx _ _ (jd jdt_Law_16 18 rfl) rfl)
                                                    · refine J_ite (fun h195 => ?_) (fun h195 => ?_)
                                                      · refine J_mono (w_tsw C h195 (jd jdt_Law_0 21 rfl) (by decide) (by decide) rfl rfl) ?_
                                                        refine J_mono (w_aload_n C (jd jdt_Law_16 19 rfl) rfl) ?_
                                                        refine J_mono (w_aload_n C (jd jdt_Law_16 20 rfl) rfl) ?_
                                                        refine J_mono (w_iload_n C (jd jdt_Law_16 21 rfl) rfl) ?_
                                                        refine J_mono (w_iconst_1 C (jd jdt_Law_16 22 rfl)) ?_
                                                        refine J_mono (w_iadd C (jd jdt_Law_16 23 rfl)) ?_
                                                        refine J_bind (fun v196 hv196 => ?_)
                                                        refine J_mono (w_scr C hX hv196 (jd jdt_Law_16 24 rfl)) ?_
                                                        refine J_bind (fun q197 hq197 => ?_)
                                                        refine J_mono (jc_Law_114 C hcs hy1 (C_Sp_seed l G F y1 v196 hy1 M hq197) rfl (Nat.le_trans (Nat.le_of_ble_eq_true rfl : 1 + 1 ≤ 1300) hD) (jd jdt_Law_16 25 rfl)) ?_
                                                        refine J_mono (w_aload_n C (jd jdt_Law_16 26 rfl) rfl) ?_
                                                        refine J_mono (w_aload_n C (jd jdt_Law_16 27 rfl) rfl) ?_
                                                        refine J_mono (w_iload_n C (jd jdt_Law_16 28 rfl) rfl) ?_
                                                        refine J_mono (w_iconst_1 C (jd jdt_Law_16 29 rfl)) ?_
                                                        refine J_mono (w_iadd C (jd jdt_Law_16 30 rfl)) ?_
                                                        refine J_bind (fun v198 hv198 => ?_)
                                                        refine J_mono (w_scr C hX hv198 (jd jdt_Law_16 31 rfl)) ?_
                                                        refine J_bind (fun q199 hq199 => ?_)
                                                        refine J_mono (jc_Law_117 C hcs hy2 (C_Mo_seed l G F y2 v198 hy2 q197.2 hq199) rfl (Nat.le_trans (Nat.le_of_ble_eq_true rfl : 1 + 1 ≤ 1300) hD) (jd jdt_Law_16 32 rfl)) ?_
                                                        refine J_br (w_icmp_eq C (jd jdt_Law_16 33 rfl) rfl) (fun h200 => J_pos h200 ?_) (fun h200 => J_neg h200 ?_)
                                                        · refine J_mono (w_iinc (v := x3 + 6) (ls' := [some (.ref 2099), some (.ref y1), some (.ref y2), some (.int (x3 + 6))]) C (jd jdt_Law_17 35 rfl) rfl rfl (by decide) rfl rfl) ?_
                                                          refine J_mono (w_goto C (jd jdt_Law_17 36 rfl) rfl) ?_
                                                          exact J_sub (ih (x3 + 6) q199.2) ⟨rfl, rfl, rfl, rfl, trivial⟩
                                                        · refine J_mono (w_iconst_0 C (jd jdt_Law_16 34 rfl)) ?_
                                                          exact J_some (fun hx => hR 0 q199.2 hx _ _ (jd jdt_Law_16 35 rfl) rfl)
                                                      · refine J_ite (fun h201 => ?_) (fun h201 => ?_)
                                                        · refine J_mono (w_tsw C h201 (jd jdt_Law_0 21 rfl) (by decide) (by decide) rfl rfl) ?_
                                                          refine J_mono (w_aload_n C (jd jdt_Law_16 36 rfl) rfl) ?_
                                                          refine J_bind (fun q202 hq202 => ?_)
                                                          refine J_mono (jc_Law_118 C hcs hy1 (C_Sp_ask l G F y1 hy1 M hq202) rfl (Nat.le_trans (Nat.le_of_ble_eq_true rfl : 93 + 1 ≤ 1300) hD) (jd jdt_Law_16 37 rfl)) ?_
                                                          refine J_mono (w_aload_n C (jd jdt_Law_16 38 rfl) rfl) ?_
                                                          refine J_bind (fun q203 hq203 => ?_)
                                                          refine J_mono (jc_Law_122 C hcs hy2 (C_Mo_ask l G F y2 hy2 q202.2 hq203) rfl (Nat.le_trans (Nat.le_of_ble_eq_true rfl : 10 + 1 ≤ 1300) hD) (jd jdt_Law_16 39 rfl)) ?_
                                                          refine J_br (w_lcmp_eq C (jd jdt_Law_17 0 rfl) (jd jdt_Law_17 1 rfl) rfl) (fun h204 => J_pos h204 ?_) (fun h204 => J_neg h204 ?_)
                                                          · refine J_mono (w_iinc (v := x3 + 6) (ls' := [some (.ref 2099), some (.ref y1), some (.ref y2), some (.int (x3 + 6))]) C (jd jdt_Law_17 35 rfl) rfl rfl (by decide) rfl rfl) ?_
                                                            refine J_mono (w_goto C (jd jdt_Law_17 36 rfl) rfl) ?_
                                                            exact J_sub (ih (x3 + 6) q203.2) ⟨rfl, rfl, rfl, rfl, trivial⟩
                                                          · refine J_mono (w_iconst_0 C (jd jdt_Law_17 2 rfl)) ?_
                                                            exact J_some (fun hx => hR 0 q203.2 hx _ _ (jd jdt_Law_17 3 rfl) rfl)
                                                        · refine J_ite (fun h205 => ?_) (fun h205 => ?_)
                                                          · refine J_mono (w_tsw C h205 (jd jdt_Law_0 21 rfl) (by decide) (by decide) rfl rfl) ?_
                                                            refine J_mono (w_aload_n C (jd jdt_Law_17 4 rfl) rfl) ?_
                                                            refine J_bind (fun q206 hq206 => ?_)
                                                            refine J_mono (jc_Law_123 C hcs hy1 (C_Sp_image l G F y1 hy1 M hq206) rfl (Nat.le_trans (Nat.le_of_ble_eq_true rfl : 3 + 1 ≤ 1300) hD) (jd jdt_Law_17 5 rfl)) ?_
                                                            refine J_mono (w_aload_n C (jd jdt_Law_17 6 rfl) rfl) ?_
                                                            refine J_bind (fun q207 hq207 => ?_)
                                                            refine J_mono (jc_Law_126 C hcs hy2 (C_Mo_image l G F y2 hy2 q206.2 hq207) rfl (Nat.le_trans (Nat.le_of_ble_eq_true rfl : 2 + 1 ≤ 1300) hD) (jd jdt_Law_17 7 rfl)) ?_
                                                            refine J_br (w_icmp_eq C (jd jdt_Law_17 8 rfl) rfl) (fun h208 => J_pos h208 ?_) (fun h208 => J_neg h208 ?_)
                                                            · refine J_mono (w_iinc (v := x3 + 6) (ls' := [some (.ref 2099), some (.ref y1), some (.ref y2), some (.int (x3 + 6))]) C (jd jdt_Law_17 35 rfl) rfl rfl (by decide) rfl rfl) ?_
                                                              refine J_mono (w_goto C (jd jdt_Law_17 36 rfl) rfl) ?_
                                                              exact J_sub (ih (x3 + 6) q207.2) ⟨rfl, rfl, rfl, rfl, trivial⟩
                                                            · refine J_mono (w_iconst_0 C (jd jdt_Law_17 9 rfl)) ?_
                                                              exact J_some (fun hx => hR 0 q207.2 hx _ _ (jd jdt_Law_17 10 rfl) rfl)
                                                          · refine J_ite (fun h209 => ?_) (fun h209 => ?_)
                                                            · refine J_mono (w_tsw C h209 (jd jdt_Law_0 21 rfl) (by decide) (by decide) rfl rfl) ?_
                                                              refine J_mono (w_aload_n C (jd jdt_Law_17 11 rfl) rfl) ?_
                                                              refine J_mono (w_aload_n C (jd jdt_Law_17 12 rfl) rfl) ?_
                                                              refine J_mono (w_iload_n C (jd jdt_Law_17 13 rfl) rfl) ?_
                                                              refine J_mono (w_iconst_1 C (jd jdt_Law_17 14 rfl)) ?_
                                                              refine J_mono (w_iadd C (jd jdt_Law_17 15 rfl)) ?_
                                                              refine J_bind (fun v210 hv210 => ?_)
                                                              refine J_mono (w_scr C hX hv210 (jd jdt_Law_17 16 rfl)) ?_
                                                              refine J_bind (fun q211 hq211 => ?_)
                                                              refine J_mono (jc_Law_127 C hcs hy1 (C_Sp_octet l G F y1 v210 hy1 M hq211) rfl (Nat.le_trans (Nat.le_of_ble_eq_true rfl : 2 + 1 ≤ 1300) hD) (jd jdt_Law_17 17 rfl)) ?_
                                                              refine J_mono (w_aload_n C (jd jdt_Law_17 18 rfl) rfl) ?_
                                                              refine J_mono (w_aload_n C (jd jdt_Law_17 19 rfl) rfl) ?_
                                                              refine J_mono (w_iload_n C (jd jdt_Law_17 20 rfl) rfl) ?_
                                                              refine J_mono (w_iconst_1 C (jd jdt_Law_17 21 rfl)) ?_
                                                              refine J_mono (w_iadd C (jd jdt_Law_17 22 rfl)) ?_
                                                              refine J_bind (fun v212 hv212 => ?_)
                                                              refine J_mono (w_scr C hX hv212 (jd jdt_Law_17 23 rfl)) ?_
                                                              refine J_bind (fun q213 hq213 => ?_)
                                                              refine J_mono (jc_Law_130 C hcs hy2 (C_Mo_octet l G F y2 v212 hy2 M hq213) rfl (Nat.le_trans (Nat.le_of_ble_eq_true rfl : 1 + 1 ≤ 1300) hD) (jd jdt_Law_17 24 rfl)) ?_
                                                              refine J_br (w_icmp_eq C (jd jdt_Law_17 25 rfl) rfl) (fun h214 => J_pos h214 ?_) (fun h214 => J_neg h214 ?_)
                                                              · refine J_mono (w_iinc (v := x3 + 6) (ls' := [some (.ref 2099), some (.ref y1), some (.ref y2), some (.int (x3 + 6))]) C (jd jdt_Law_17 35 rfl) rfl rfl (by decide) rfl rfl) ?_
                                                                refine J_mono (w_goto C (jd jdt_Law_17 36 rfl) rfl) ?_
                                                                exact J_sub (ih (x3 + 6) M) ⟨rfl, rfl, rfl, rfl, trivial⟩
                                                              · refine J_mono (w_iconst_0 C (jd jdt_Law_17 26 rfl)) ?_
                                                                exact J_some (fun hx => hR 0 M hx _ _ (jd jdt_Law_17 27 rfl) rfl)
                                                            · refine J_ite (fun h215 => ?_) (fun h215 => ?_)
                                                              · refine J_mono (w_tsw C h215 (jd jdt_Law_0 21 rfl) (by decide) (by decide) rfl rfl) ?_
                                                                refine J_mono (w_aload_n C (jd jdt_Law_17 28 rfl) rfl) ?_
                                                                refine J_bind (fun q216 hq216 => ?_)
                                                                refine J_mono (jc_Law_131 C hcs hy1 (C_Sp_on l G F y1 hy1 M hq216) rfl (Nat.le_trans (Nat.le_of_ble_eq_true rfl : 10 + 1 ≤ 1300) hD) (jd jdt_Law_17 29 rfl)) ?_
                                                                refine J_mono (w_aload_n C (jd jdt_Law_17 30 rfl) rfl) ?_
                                                                refine J_bind (fun q217 hq217 => ?_)
                                                                refine J_mono (jc_Law_134 C hcs hy2 (C_Mo_on l G F y2 hy2 q216.2 hq217) rfl (Nat.le_trans (Nat.le_of_ble_eq_true rfl : 6 + 1 ≤ 1300) hD) (jd jdt_Law_17 31 rfl)) ?_
                                                                refine J_br (w_icmp_eq C (jd jdt_Law_17 32 rfl) rfl) (fun h218 => J_pos h218 ?_) (fun h218 => J_neg h218 ?_)
                                                                · refine J_mono (w_iinc (v := x3 + 6) (ls' := [some (.ref 2099), some (.ref y1), some (.ref y2), some (.int (x3 + 6))]) C (jd jdt_Law_17 35 rfl) rfl rfl (by decide) rfl rfl) ?_
                                                                  refine J_mono (w_goto C (jd jdt_Law_17 36 rfl) rfl) ?_
                                                                  exact J_sub (ih (x3 + 6) q217.2) ⟨rfl, rfl, rfl, rfl, trivial⟩
                                                                · refine J_mono (w_iconst_0 C (jd jdt_Law_17 33 rfl)) ?_
                                                                  exact J_some (fun hx => hR 0 q217.2 hx _ _ (jd jdt_Law_17 34 rfl) rfl)
                                                              · refine J_mono (w_tswd C (jd jdt_Law_0 21 rfl) (fun k9 kA kB => by have kC : k9 = 0 ∨ k9 = 1 ∨ k9 = 2 ∨ k9 = 3 ∨ k9 = 4 ∨ k9 = 5 ∨ k9 = 6 ∨ k9 = 7 ∨ k9 = 8 ∨ k9 = 9 ∨ k9 = 10 ∨ k9 = 11 ∨ k9 = 12 ∨ k9 = 13 ∨ k9 = 14 ∨ k9 = 15 ∨ k9 = 16 ∨ k9 = 17 ∨ k9 = 18 ∨ k9 = 19 ∨ k9 = 20 ∨ k9 = 21 ∨ k9 = 22 ∨ k9 = 23 ∨ k9 = 24 ∨ k9 = 25 ∨ k9 = 26 ∨ k9 = 27 := (by omega); rcases kC with rfl|rfl|rfl|rfl|rfl|rfl|rfl|rfl|rfl|rfl|rfl|rfl|rfl|rfl|rfl|rfl|rfl|rfl|rfl|rfl|rfl|rfl|rfl|rfl|rfl|rfl|rfl|rfl <;> first | exact h3 | exact h17 | exact h23 | exact h27 | exact h33 | exact h39 | exact h49 | exact h57 | exact h65 | exact h73 | exact h81 | exact h89 | exact h103 | exact h111 | exact h119 | exact h135 | exact h141 | exact h145 | exact h155 | exact h165 | exact h169 | exact h177 | exact h185 | exact h195 | exact h201 | exact h205 | exact h209 | exact h215) (by decide) (by decide) rfl) ?_
                                                                refine J_mono (w_iinc (v := x3 + 6) (ls' := [some (.ref 2099), some (.ref y1), some (.ref y2), some (.int (x3 + 6))]) C (jd jdt_Law_17 35 rfl) rfl rfl (by decide) rfl rfl) ?_
                                                                refine J_mono (w_goto C (jd jdt_Law_17 36 rfl) rfl) ?_
                                                                exact J_sub (ih (x3 + 6) M) ⟨rfl, rfl, rfl, rfl, trivial⟩
  refine J_sb (fun (q219 : SM) => Wk p l e R s m args below meth c G 4 Q 430 28833 jN0 (jce G q219) 1043 [none, none, none, none] []) (J_sub (L18 2099 0 366 rfl hp1 hp2 jfuel 0 M) ⟨rfl, rfl, rfl, rfl, trivial⟩) (fun q219 => ?_)
  refine J_mono (w_iconst_1 C (jd jdt_Law_17 37 rfl)) ?_
  exact J_some (fun hx => hR 1 q219 hx _ _ (jd jdt_Law_17 38 rfl) rfl)
end
