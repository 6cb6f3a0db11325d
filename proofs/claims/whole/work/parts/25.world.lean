/-! ===== the world after both constructors, and the passage to the static world ===== -/
def dWs : Option (DM × DM × DM × DM) := (dNew [] 11 [.null, .null, .null, .null, .null, .null, .null, .null, .null, .null, .null, .int 0, .long 0, .null, .int 0]).bind fun M1 => (fd_Sp_init 0 M1).bind fun M2 => (dNew M2 12 [.null, .int 0, .int 0, .int 0, .int 0, .int 0, .int 0, .int 0, .int 0, .int 0, .null, .null, .null, .null, .null, .null, .null, .null, .null, .null, .null, .null, .null, .null, .null, .null, .null, .int 0, .null, .null, .int 0, .int 0, .null, .null, .null, .null, .null, .null, .null, .null, .null, .null, .int 0, .null, .int 0, .null, .int 0, .int 0, .int 0, .int 0, .int 0, .int 0, .null, .null, .int 0, .int 0, .int 0, .int 0, .int 0, .null, .null, .null, .null, .int 0, .int 0, .int 0, .null, .long 0, .null, .null, .null, .null, .null, .null, .null, .null, .null, .null, .null, .null, .null, .null, .null, .null, .null, .null, .null, .null, .null, .int 0, .null, .int 0, .int 0, .int 0, .null, .int 0, .long 0, .int 0, .null, .int 0]).bind fun M3 => (fd_Mo_init M2.length M3).bind fun W => some (M1, M2, M3, W)
def dfc (k i j : Nat) (v : Value) : Bool := match jft k j, v with
  | 0, .int _ => true
  | 1, .long _ => true
  | 2, .ref o => o == jpf i j
  | 3, .ref o => o == 7 || o == 57
  | _, _ => false
def drc (i j : Nat) (v : Value) : Bool := match v with
  | .ref o => o == jpf i j
  | _ => false
def dci (W : DM) (i : Nat) : Bool :=
  (W.getD i (99, [])).1 == (jsh i).1 && (if (jsh i).1 < 99 then (W.getD i (99, [])).2.length == jnf (jsh i).1 && (List.range (jnf (jsh i).1)).all (fun j => dfc (jsh i).1 i j ((W.getD i (99, [])).2.getD j .null))
  else (W.getD i (99, [])).2.length == jln i && (!((jsh i).1 == 103) || (List.range (jln i)).all (fun j => drc i j ((W.getD i (99, [])).2.getD j .null))))
def dchk (W : DM) : Bool := W.length == 430 && (List.range 430).all (dci W)
theorem dW_ok : (match dWs with | some (_, M2, _, W) => M2.length == 366 && dchk W | none => false) = true := by decide +kernel
theorem dW_ex : ∃ M1 M2 M3 W : DM, dNew [] 11 [.null, .null, .null, .null, .null, .null, .null, .null, .null, .null, .null, .int 0, .long 0, .null, .int 0] = some M1 ∧ fd_Sp_init 0 M1 = some M2 ∧ dNew M2 12 [.null, .int 0, .int 0, .int 0, .int 0, .int 0, .int 0, .int 0, .int 0, .int 0, .null, .null, .null, .null, .null, .null, .null, .null, .null, .null, .null, .null, .null, .null, .null, .null, .null, .int 0, .null, .null, .int 0, .int 0, .null, .null, .null, .null, .null, .null, .null, .null, .null, .null, .int 0, .null, .int 0, .null, .int 0, .int 0, .int 0, .int 0, .int 0, .int 0, .null, .null, .int 0, .int 0, .int 0, .int 0, .int 0, .null, .null, .null, .null, .int 0, .int 0, .int 0, .null, .long 0, .null, .null, .null, .null, .null, .null, .null, .null, .null, .null, .null, .null, .null, .null, .null, .null, .null, .null, .null, .null, .null, .int 0, .null, .int 0, .int 0, .int 0, .null, .int 0, .long 0, .int 0, .null, .int 0] = some M3 ∧ fd_Mo_init 366 M3 = some W ∧ M2.length = 366 ∧ dchk W = true ∧ dWs = some (M1, M2, M3, W) := by
  have h := dW_ok
  cases hw : dWs with
  | none => rw [hw] at h; cases h
  | some q =>
    obtain ⟨M1, M2, M3, W⟩ := q
    rw [hw] at h
    have h' : (M2.length == 366 && dchk W) = true := h
    rw [Bool.and_eq_true] at h'
    have hl : M2.length = 366 := of_decide_eq_true h'.1
    have hw' := hw
    unfold dWs at hw'
    cases e1 : dNew [] 11 [.null, .null, .null, .null, .null, .null, .null, .null, .null, .null, .null, .int 0, .long 0, .null, .int 0] with
    | none => rw [e1] at hw'; cases hw'
    | some N1 =>
      rw [e1] at hw'
      simp only [Option.bind_some] at hw'
      cases e2 : fd_Sp_init 0 N1 with
      | none => rw [e2] at hw'; cases hw'
      | some N2 =>
        rw [e2] at hw'
        simp only [Option.bind_some] at hw'
        cases e3 : dNew N2 12 [.null, .int 0, .int 0, .int 0, .int 0, .int 0, .int 0, .int 0, .int 0, .int 0, .null, .null, .null, .null, .null, .null, .null, .null, .null, .null, .null, .null, .null, .null, .null, .null, .null, .int 0, .null, .null, .int 0, .int 0, .null, .null, .null, .null, .null, .null, .null, .null, .null, .null, .int 0, .null, .int 0, .null, .int 0, .int 0, .int 0, .int 0, .int 0, .int 0, .null, .null, .int 0, .int 0, .int 0, .int 0, .int 0, .null, .null, .null, .null, .int 0, .int 0, .int 0, .null, .long 0, .null, .null, .null, .null, .null, .null, .null, .null, .null, .null, .null, .null, .null, .null, .null, .null, .null, .null, .null, .null, .null, .int 0, .null, .int 0, .int 0, .int 0, .null, .int 0, .long 0, .int 0, .null, .int 0] with
        | none => rw [e3] at hw'; cases hw'
        | some N3 =>
          rw [e3] at hw'
          simp only [Option.bind_some] at hw'
          cases e4 : fd_Mo_init N2.length N3 with
          | none => rw [e4] at hw'; cases hw'
          | some N4 =>
            rw [e4] at hw'
            simp only [Option.bind_some] at hw'
            have hq := Option.some.inj hw'
            have a1 : N1 = M1 := congrArg (fun z => z.1) hq
            have a2 : N2 = M2 := congrArg (fun z => z.2.1) hq
            have a3 : N3 = M3 := congrArg (fun z => z.2.2.1) hq
            have a4 : N4 = W := congrArg (fun z => z.2.2.2) hq
            rw [a1, a2] at e2
            rw [a2, a3] at e3
            rw [a2, a3, a4, hl] at e4
            rw [a1] at e1
            exact ⟨M1, M2, M3, W, congrArg some a1, e2, e3, e4, hl, h'.2, rfl⟩
def dsv (v : Value) : Int32 := match v with
  | .int x => x
  | .ref o => jopn o
  | _ => 0
def dsm (W : DM) : SM := (fun i j => if (jsh i).1 < 99 then dsv ((W.getD i (99, [])).2.getD j .null) else dI ((W.getD i (99, [])).2.getD j (.int 0)), fun i j => if (jsh i).1 < 99 then dL ((W.getD i (99, [])).2.getD j .null) else dL ((W.getD i (99, [])).2.getD j (.long 0)))
def jst (G : JG) : JG := (jB G, jSa G, jSv G, jD G, jA G, false)
theorem dgetD {l : List Value} {j : Nat} (h : j < l.length) : l[j]? = some (l.getD j .null) := by
  rw [List.getD_eq_getElem?_getD, List.getElem?_eq_getElem h]; rfl
theorem dtrans {W : DM} (h : dchk W = true) (G : JG) : ∀ i, i < 430 → dce G W i = jce (jst G) (dsm W) i ∨ ((jsh i).1 = 103 ∧ ∃ vs : List Value, dce G W i = dcell G 103 vs ∧ vs.length = jln i ∧ ∀ j, j < jln i → vs.getD j .null = .ref (jpf i j)) := by
  intro i hi
  unfold dchk at h
  rw [Bool.and_eq_true] at h
  have hc := List.all_eq_true.mp h.2 i (List.mem_range.mpr hi)
  unfold dci at hc
  rw [Bool.and_eq_true] at hc
  have hk : dkd W i = (jsh i).1 := of_decide_eq_true hc.1
  have hK : ∀ i, i < 430 → (jsh i).1 < 13 ∨ (jsh i).1 = 100 ∨ (jsh i).1 = 101 ∨ (jsh i).1 = 102 ∨ (jsh i).1 = 103 := by decide +kernel
  have h2 := hc.2
  rcases hK i hi with k | k | k | k | k
  · rw [if_pos (by omega), Bool.and_eq_true] at h2
    have hlen : (W.getD i (99, [])).2.length = jnf (jsh i).1 := of_decide_eq_true h2.1
    left
    rw [dce_o hk (by omega), jce_o ⟨hi, rfl⟩ (by omega)]
    congr 2
    apply List.ext_getElem?
    intro j
    by_cases hj : j < jnf (jsh i).1
    · have hf := List.all_eq_true.mp h2.2 j (List.mem_range.mpr hj)
      rw [jfs_get hj, List.getElem?_map]
      have hjl : j < (W.getD i (99, [])).2.length := by rw [hlen]; exact hj
      have hg := dgetD hjl
      rw [hg]
      show some (jV G _) = some (jfv (jst G) (dsm W) (jsh i).1 i j)
      have e1 : (dsm W).1 i j = dsv ((W.getD i (99, [])).2.getD j .null) := if_pos (by omega)
      have e2 : (dsm W).2 i j = dL ((W.getD i (99, [])).2.getD j .null) := if_pos (by omega)
      unfold jfv
      rw [e1, e2]
      generalize (W.getD i (99, [])).2.getD j .null = v at hf ⊢
      unfold dfc at hf
      congr 1
      by_cases c0 : jft (jsh i).1 j = 0
      · rw [if_pos c0]; rw [c0] at hf; cases v <;> first | rfl | (cases hf)
      · rw [if_neg c0]
        by_cases c1 : jft (jsh i).1 j = 1
        · rw [if_pos c1]; rw [c1] at hf; cases v <;> first | rfl | (cases hf)
        · rw [if_neg c1]
          by_cases c2 : jft (jsh i).1 j = 2
          · rw [if_pos c2]; rw [c2] at hf
            cases v <;> first | (cases hf; done) | skip
            next o =>
              have ho : o = jpf i j := of_decide_eq_true hf
              rw [ho]
              show Value.ref (jad G _) = _
              rw [jad_lt (jpf_lt i j)]; rfl
          · rw [if_neg c2]
            by_cases c3 : jft (jsh i).1 j = 3
            · rw [c3] at hf
              cases v <;> first | (cases hf; done) | skip
              next o =>
                have ho : (o == 7 || o == 57) = true := hf
                rw [Bool.or_eq_true] at ho
                have ho' : o = 7 ∨ o = 57 := ho.imp of_decide_eq_true of_decide_eq_true
                rcases ho' with rfl | rfl
                · show Value.ref (jad G 7) = _; rw [jad_lt (by decide)]; rfl
                · show Value.ref (jad G 57) = _; rw [jad_lt (by decide)]; rfl
            · exfalso
              revert hf
              generalize jft (jsh i).1 j = z at c0 c1 c2 c3
              match z, c0, c1, c2, c3 with
              | 0, c, _, _, _ => exact absurd rfl c
              | 1, _, c, _, _ => exact absurd rfl c
              | 2, _, _, c, _ => exact absurd rfl c
              | 3, _, _, _, c => exact absurd rfl c
              | z + 4, _, _, _, _ => cases v <;> intro hf <;> cases hf
    · rw [List.getElem?_eq_none (by rw [List.length_map]; omega), List.getElem?_eq_none (by rw [List.length_map, List.length_range]; omega)]
  · rw [if_neg (by omega), Bool.and_eq_true] at h2
    have hlen : (W.getD i (99, [])).2.length = jln i := of_decide_eq_true h2.1
    left
    rw [dce_a (hk.trans k) (by omega), jce_i ⟨hi, k⟩]
    unfold dcell
    rw [if_pos rfl, hlen]
    show _ = Sum.inl (jA G 0, jln i, Sum.inl fun j => (dsm W).1 i j)
    have e : (fun j => (dsm W).1 i j) = fun j => dI ((W.getD i (99, [])).2.getD j (.int 0)) := funext fun j => if_neg (by omega)
    rw [e]
  · rw [if_neg (by omega), Bool.and_eq_true] at h2
    have hlen : (W.getD i (99, [])).2.length = jln i := of_decide_eq_true h2.1
    left
    rw [dce_a (hk.trans k) (by omega), jce_l ⟨hi, k⟩]
    unfold dcell
    rw [if_neg (by decide), if_pos rfl, hlen]
    show _ = Sum.inl (jA G 1, jln i, Sum.inr (Sum.inl fun j => (dsm W).2 i j))
    have e : (fun j => (dsm W).2 i j) = fun j => dL ((W.getD i (99, [])).2.getD j (.long 0)) := funext fun j => if_neg (by omega)
    rw [e]
  · rw [if_neg (by omega), Bool.and_eq_true] at h2
    have hlen : (W.getD i (99, [])).2.length = jln i := of_decide_eq_true h2.1
    left
    rw [dce_a (hk.trans k) (by omega), jce_c ⟨hi, k⟩]
    unfold dcell
    rw [if_neg (by decide), if_neg (by decide), if_pos rfl, hlen]
    show _ = Sum.inl (jA G 2, jln i, Sum.inl fun j => (dsm W).1 i j)
    have e : (fun j => (dsm W).1 i j) = fun j => dI ((W.getD i (99, [])).2.getD j (.int 0)) := funext fun j => if_neg (by omega)
    rw [e]
  · rw [if_neg (by omega), Bool.and_eq_true] at h2
    have hlen : (W.getD i (99, [])).2.length = jln i := of_decide_eq_true h2.1
    have h3 : (List.range (jln i)).all (fun j => drc i j ((W.getD i (99, [])).2.getD j .null)) = true := by
      have h4 := h2.2
      rw [k] at h4
      exact h4
    refine Or.inr ⟨k, _, dce_a (hk.trans k) (by omega), hlen, fun j hj => ?_⟩
    have h5 := List.all_eq_true.mp h3 j (List.mem_range.mpr hj)
    generalize (W.getD i (99, [])).2.getD j .null = v at h5 ⊢
    unfold drc at h5
    cases v <;> first | (cases h5; done) | skip
    next o =>
      have ho : o = jpf i j := of_decide_eq_true h5
      rw [ho]
theorem dpass {W : DM} (h : dchk W = true) {G : JG} {H : Heap} (hr : jRep G W.length (dce G W) H) : jRep (jst G) jN0 (jce (jst G) (dsm W)) H := by
  have hl : W.length = 430 := by
    unfold dchk at h
    rw [Bool.and_eq_true] at h
    exact of_decide_eq_true h.1
  rw [hl] at hr
  refine ⟨hr.1, (fun q => by cases q), by decide, fun i q hq => ?_⟩
  obtain ⟨hi, rfl⟩ := jws_of hq
  have hi' : i < 430 := hi
  have h9 := hr.2.2.2 i _ (jws_get hi')
  rcases dtrans h G i hi' with e | ⟨k, vs, e1, e2, e3⟩
  · rw [e] at h9; exact h9
  · rw [e1] at h9
    rw [jce_r ⟨hi, k⟩]
    have h10 : H[jB G + i]? = some (vp_cell (jA G 3) (vs.length, .inr (.inr (.inr (.inr (fun j => dR G (vs.getD j .null))))))) := h9
    show H[jB G + i]? = some (vp_cell (jA G 3) (jln i, .inr (.inr (.inr (.inr (fun j => some (jB G + jpf i j)))))))
    rw [h10, vp_cell_q, vp_cell_q, e2]
    refine congrArg some (darr_congr fun j hj => ?_)
    rw [e3 j hj]
    show va_rf (some (jad G _)) = _
    rw [jad_lt (jpf_lt i j)]
