/-! THE CLAIM OUT OF ONE WALK OF THE LAW'S BODY. Your part is whole_start (and what it stands on); all else here is the same for every law, but numbers. -/
def R_law : String := "SluicePitLaw"
def lw_P (b : Addr) (xs : List Int32) (args : Array Value) (s : State) : Prop := args = #[.ref b] ∧ s.IntsAt b xs ∧ xs.length ≤ 3072 ∧ (Jvm.Cond.and given_1 narrow_1).before args s = true
def lw_Q (_ : Array Value) (s : State) (o : Outcome) (t : State) : Prop := o = .returned (some (.int 1)) ∧ Framed s o t [] 600000 7302250
def lw_Z (below : List Frame) (a : Array Value) (s : State) : State → Prop := fun t => ∃ o, t.status = .running ∧ Ended t below o ∧ lw_Q a s o t
/-- the law's own end, with 1 on the stack, nothing written that was there before, its room as the claim has it -/
theorem lw_ret {p : Program} {l : Launch} {e : Env} {s : State} {m : MethodId} {below : List Frame} {meth : Method} {c : Code} {b : Nat} (hx : p.tables.exec = Jvm.exec) (hb : c.code = code) (hr : meth.sig.returnType = ret) (hlocks : meth.locks = false) {pc : Nat} {H : Heap} {ls : Array Slot} (hdg : decode code pc = .ok (.ireturn, 1)) : W p l e room_1 s m #[Value.ref b] below meth c H [] 600000 7302250 (lw_Z below #[Value.ref b] s) (F0 m pc ls [.int 1]) := by
  intro T hT X
  obtain ⟨fs, hret, hrun, hended, hW, hframe⟩ := X.leave (v := some (.int 1)) (hlocks := hlocks) (fun h => by rw [hr] at h; cases h)
  have hmeth' : T.vm.method? m = some meth := X.method'
  refine ⟨T.setFrames fs, ?_, .returned (some (.int 1)), hrun, hended, rfl, ⟨_, rfl⟩, hW, hframe⟩
  jvm_step X.here [X.here.top, hx, hb, hdg, hmeth', hr, ret, narrow_b1]
  (try refine ⟨rfl, ?_⟩); (try refine ⟨rfl, ?_⟩)
  first | (intro acts; rw [hret _ acts rfl rfl rfl]) | rw [hret _ _ rfl rfl rfl]
  exact Steps.refl _
/-- what holds at the law's entry: the machine, the code, the tables' words (any of lw_tbl by 'hts w (by decide +kernel)'), the script of L ints xs at the cell b, what the Statement gives of the start (any of its parts by flat_of_before) -/
def lw_At (p : Program) (s : State) (m : MethodId) (meth : Method) (c : Code) (b L : Nat) (xs : Nat → Int32) : Prop :=
  p.tables.exec = Jvm.exec ∧ c.code = code ∧ meth.sig.returnType = ret ∧ c.maxLocals = 4 ∧ s.vm.findClass R_law = some m.cls ∧ (∀ w ∈ lw_tbl, w.before #[Value.ref b] s = true) ∧ va_X b L xs s s.heap ∧ b < s.heap.size ∧ meth.locks = false ∧ (Jvm.Cond.and given_1 narrow_1).before #[Value.ref b] s = true
/-! ===== the law's start ===== -/
def jtmS (i : Nat) : Term := .string (jsl.getD i ("", 0, "")).1 (jsl.getD i ("", 0, "")).2.1
def jvfS (i : Nat) : Term := .field (jtmS i) "java/lang/String" "value" "[B"
def jblk (i : Nat) : List Cond := [Cond.exactly (jtmS i) "java/lang/String", Cond.eq (.field (jtmS i) "java/lang/String" "coder" "B") (.int 0), Cond.arrayOf (jvfS i) .byte, Cond.eq (.length (jvfS i)) (.int (Int32.ofNat (jslen.getD i 0)))] ++ ((List.range (jslen.getD i 0)).map (fun j => Cond.eq (.elem (jvfS i) (.int (Int32.ofNat j))) (.int ((jsbyt.getD i []).getD j 0))) ++ (List.range i).map (fun j => Cond.not (Cond.eq (jtmS j) (jtmS i))))
def jnhd : List Cond := [Cond.count 1, Cond.isRef (.arg 0), Cond.arrayOf (.arg 0) .int, Cond.le (.length (.arg 0)) (.int 3072), Cond.eq (.static "java/lang/String" "COMPACT_STRINGS" "Z") (.int 1), Cond.isRef (.static "jdk/internal/util/Preconditions" "SIOOBE_FORMATTER" "Ljava/util/function/BiFunction;"), Cond.eq (.static "java/lang/StringUTF16" "$assertionsDisabled" "Z") (.int 1), Cond.eq (.static "java/lang/StringUTF16" "HI_BYTE_SHIFT" "I") (.int 0), Cond.eq (.static "java/lang/StringUTF16" "LO_BYTE_SHIFT" "I") (.int 8)]
theorem jnar_eq : flatC (Jvm.Cond.and given_1 narrow_1) = jnhd ++ (List.range 20).flatMap jblk := by decide +kernel
theorem jnar_in {args : Array Value} {s : State} (h : (Jvm.Cond.and given_1 narrow_1).before args s = true) : (∀ c ∈ jnhd, c.before args s = true) ∧ ∀ i, i < 20 → ∀ c ∈ jblk i, c.before args s = true := by
  have hs := flat_of_before _ h
  rw [jnar_eq] at hs
  exact ⟨fun c hc => hs c (List.mem_append_left _ hc), fun i hi c hc => hs c (List.mem_append_right _ (List.mem_flatMap.mpr ⟨i, List.mem_range.mpr hi, hc⟩))⟩
theorem jsl_in : ∀ q ∈ jsl, Cond.stringRef q.1 q.2.1 q.2.2 ∈ tables_1 := (List.forall_mem_cons.mpr ⟨(jtm jt_2 236 rfl), (List.forall_mem_cons.mpr ⟨(jtm jt_3 72 rfl), (List.forall_mem_cons.mpr ⟨(jtm jt_3 92 rfl), (List.forall_mem_cons.mpr ⟨(jtm jt_3 110 rfl), (List.forall_mem_cons.mpr ⟨(jtm jt_3 137 rfl), (List.forall_mem_cons.mpr ⟨(jtm jt_3 138 rfl), (List.forall_mem_cons.mpr ⟨(jtm jt_3 157 rfl), (List.forall_mem_cons.mpr ⟨(jtm jt_3 181 rfl), (List.forall_mem_cons.mpr ⟨(jtm jt_3 207 rfl), (List.forall_mem_cons.mpr ⟨(jtm jt_3 217 rfl), (List.forall_mem_cons.mpr ⟨(jtm jt_3 218 rfl), (List.forall_mem_cons.mpr ⟨(jtm jt_5 50 rfl), (List.forall_mem_cons.mpr ⟨(jtm jt_5 67 rfl), (List.forall_mem_cons.mpr ⟨(jtm jt_5 85 rfl), (List.forall_mem_cons.mpr ⟨(jtm jt_5 115 rfl), (List.forall_mem_cons.mpr ⟨(jtm jt_5 155 rfl), (List.forall_mem_cons.mpr ⟨(jtm jt_5 162 rfl), (List.forall_mem_cons.mpr ⟨(jtm jt_5 163 rfl), (List.forall_mem_cons.mpr ⟨(jtm jt_5 164 rfl), (List.forall_mem_cons.mpr ⟨(jtm jt_5 165 rfl), (fun _ h => absurd h List.not_mem_nil)⟩)⟩)⟩)⟩)⟩)⟩)⟩)⟩)⟩)⟩)⟩)⟩)⟩)⟩)⟩)⟩)⟩)⟩)⟩)⟩)
theorem jnest_in : ∀ q ∈ jnest, Cond.methodLinkNest q.1 q.2.1 q.2.2.1 q.2.2.2 ∈ tables_1 := (List.forall_mem_cons.mpr ⟨(jtm jt_2 190 rfl), (List.forall_mem_cons.mpr ⟨(jtm jt_2 222 rfl), (List.forall_mem_cons.mpr ⟨(jtm jt_2 227 rfl), (List.forall_mem_cons.mpr ⟨(jtm jt_3 15 rfl), (List.forall_mem_cons.mpr ⟨(jtm jt_3 97 rfl), (List.forall_mem_cons.mpr ⟨(jtm jt_3 123 rfl), (List.forall_mem_cons.mpr ⟨(jtm jt_3 130 rfl), (List.forall_mem_cons.mpr ⟨(jtm jt_3 133 rfl), (List.forall_mem_cons.mpr ⟨(jtm jt_3 134 rfl), (List.forall_mem_cons.mpr ⟨(jtm jt_3 139 rfl), (List.forall_mem_cons.mpr ⟨(jtm jt_3 153 rfl), (List.forall_mem_cons.mpr ⟨(jtm jt_3 169 rfl), (List.forall_mem_cons.mpr ⟨(jtm jt_3 192 rfl), (List.forall_mem_cons.mpr ⟨(jtm jt_3 193 rfl), (List.forall_mem_cons.mpr ⟨(jtm jt_3 198 rfl), (List.forall_mem_cons.mpr ⟨(jtm jt_3 216 rfl), (List.forall_mem_cons.mpr ⟨(jtm jt_3 233 rfl), (List.forall_mem_cons.mpr ⟨(jtm jt_3 234 rfl), (List.forall_mem_cons.mpr ⟨(jtm jt_3 239 rfl), (List.forall_mem_cons.mpr ⟨(jtm jt_4 4 rfl), (List.forall_mem_cons.mpr ⟨(jtm jt_4 5 rfl), (List.forall_mem_cons.mpr ⟨(jtm jt_4 14 rfl), (List.forall_mem_cons.mpr ⟨(jtm jt_4 31 rfl), (List.forall_mem_cons.mpr ⟨(jtm jt_4 85 rfl), (List.forall_mem_cons.mpr ⟨(jtm jt_4 175 rfl), (List.forall_mem_cons.mpr ⟨(jtm jt_4 178 rfl), (List.forall_mem_cons.mpr ⟨(jtm jt_4 193 rfl), (List.forall_mem_cons.mpr ⟨(jtm jt_4 207 rfl), (List.forall_mem_cons.mpr ⟨(jtm jt_4 208 rfl), (List.forall_mem_cons.mpr ⟨(jtm jt_5 81 rfl), (List.forall_mem_cons.mpr ⟨(jtm jt_5 82 rfl), (fun _ h => absurd h List.not_mem_nil)⟩)⟩)⟩)⟩)⟩)⟩)⟩)⟩)⟩)⟩)⟩)⟩)⟩)⟩)⟩)⟩)⟩)⟩)⟩)⟩)⟩)⟩)⟩)⟩)⟩)⟩)⟩)⟩)⟩)⟩)⟩)
theorem jcl_in : ∀ (c : Nat) (q : vw_C), jcl[c]? = some q → (∀ w ∈ u_ws q.1 q.2.1 q.2.2, w ∈ jTW) ∧ ∃ n, Cond.instantiable q.1 n ∈ jTW := by
  intro c q hq
  match c, hq with
  | 0, hq => cases hq; exact ⟨jin0, 5, jw_253⟩
  | 1, hq => cases hq; exact ⟨jin1, 14, jw_102⟩
  | 2, hq => cases hq; exact ⟨jin2, 3, jw_237⟩
  | 3, hq => cases hq; exact ⟨jin3, 3, jw_82⟩
  | 4, hq => cases hq; exact ⟨jin4, 2, jw_130⟩
  | 5, hq => cases hq; exact ⟨jin5, 11, jw_298⟩
  | 6, hq => cases hq; exact ⟨jin6, 5, jw_354⟩
  | 7, hq => cases hq; exact ⟨jin7, 7, jw_47⟩
  | 8, hq => cases hq; exact ⟨jin8, 3, jw_281⟩
  | 9, hq => cases hq; exact ⟨jin9, 3, jw_110⟩
  | 10, hq => cases hq; exact ⟨jin10, 2, jw_30⟩
  | 11, hq => cases hq; exact ⟨jin11, 15, jw_22⟩
  | 12, hq => cases hq; exact ⟨jin12, 100, jw_1162⟩
  | c + 13, hq => cases hq
theorem st_arr {args : Array Value} {s : State} {ty : FieldType} (h : (Cond.arrayClass ty).before args s = true) : ∃ cA : ClassId, ArrOfT s cA ty ∧ s.vm.findClass ("[" ++ ty.toString) = some cA := by
  obtain ⟨c, k, comp, h1, h2, h3⟩ := Cond.arrayClass_spec h
  exact ⟨c, fun n z => ⟨fun k q => (by cases q), k, h2, comp, h3⟩, h1⟩
theorem st_G {p : Program} {s : State} {m : MethodId} {meth : Method} {c : Code} {b L : Nat} {xs : Nat → Int32} (C0 : lw_At p s m meth c b L xs) : ∃ G : JG, jB G = s.heap.size ∧ jF G = true ∧ jSv G 99 = b ∧ jX G s := by
  obtain ⟨hx, hb, hr, hml, hown, hts, hX, hbl, hlk, hgv⟩ := C0
  have hA : ∀ a : Nat, a < s.heap.size → ¬ s.heap.size ≤ a := fun a h q => absurd h (Nat.not_lt.mpr q)
  obtain ⟨hh, hbk⟩ := jnar_in hgv
  have hT : ∀ w ∈ tables_1, w.before #[.ref b] s = true := fun w hw => hts w (List.mem_append_right _ hw)
  have hJ : ∀ w ∈ jTW, w.before #[.ref b] s = true := fun w hw => hts w (List.mem_filter.mp hw).1
  obtain ⟨adK, adV, hS, hE⟩ := vk_Sof (args := #[.ref b]) (s := s) (N := 20) (tm := jtmS) (len := jslen) (byt := jsbyt) (A := fun q => s.heap.size ≤ q) (by decide +kernel)
    (fun i hi => hbk i hi _ (List.mem_append_left _ List.mem_cons_self))
    (fun i hi => hbk i hi _ (List.mem_append_left _ (List.mem_cons_of_mem _ List.mem_cons_self)))
    (fun i hi => hbk i hi _ (List.mem_append_left _ (List.mem_cons_of_mem _ (List.mem_cons_of_mem _ List.mem_cons_self))))
    (fun i hi => hbk i hi _ (List.mem_append_left _ (List.mem_cons_of_mem _ (List.mem_cons_of_mem _ (List.mem_cons_of_mem _ List.mem_cons_self)))))
    (fun i hi j hj => hbk i hi _ (List.mem_append_right _ (List.mem_append_left _ (List.mem_map.mpr ⟨j, List.mem_range.mpr hj, rfl⟩))))
    (fun i j hi hj hij => (Nat.lt_or_gt_of_ne hij).imp (fun q => hbk j hj _ (List.mem_append_right _ (List.mem_append_right _ (List.mem_map.mpr ⟨i, List.mem_range.mpr q, rfl⟩)))) (fun q => hbk i hi _ (List.mem_append_right _ (List.mem_append_right _ (List.mem_map.mpr ⟨j, List.mem_range.mpr q, rfl⟩))))) hA
  have hF : ∃ t : Nat, va_Z "jdk/internal/util/Preconditions" "SIOOBE_FORMATTER" "Ljava/util/function/BiFunction;" .null (fun q => s.heap.size ≤ q) s s.heap ∨ va_Z "jdk/internal/util/Preconditions" "SIOOBE_FORMATTER" "Ljava/util/function/BiFunction;" (.ref t) (fun q => s.heap.size ≤ q) s s.heap := by
    have h := va_Zqof (args := #[.ref b]) (s := s) (C := "jdk/internal/util/Preconditions") (n := "SIOOBE_FORMATTER") (d := "Ljava/util/function/BiFunction;") (A := fun q => s.heap.size ≤ q) (hT _ (jtm jt_3 33 rfl)) (hT _ (jtm jt_1 17 rfl)) (hh _ (List.mem_cons_of_mem _ (List.mem_cons_of_mem _ (List.mem_cons_of_mem _ (List.mem_cons_of_mem _ (List.mem_cons_of_mem _ List.mem_cons_self)))))) hA
    rcases h with h | ⟨t, h⟩
    · exact ⟨0, Or.inl h⟩
    · exact ⟨t, Or.inr h⟩
  obtain ⟨t, hF⟩ := hF
  have hCS : va_Z "java/lang/String" "COMPACT_STRINGS" "Z" (.int 1) (fun q => s.heap.size ≤ q) s s.heap := va_Zof (args := #[.ref b]) (hT _ (jtm jt_3 10 rfl)) (hT _ (jtm jt_1 15 rfl)) (va_eqt (hh _ (List.mem_cons_of_mem _ (List.mem_cons_of_mem _ (List.mem_cons_of_mem _ (List.mem_cons_of_mem _ List.mem_cons_self)))))) hA
  have hcl : ∀ k : Nat, ∃ d : ClassId × (Nat → Nat), ∀ q : vw_C, jcl[k]? = some q → u_Kn s q.1 q.2.1 q.2.2 d.1 d.2 := by
    intro k
    cases hk : jcl[k]? with
    | none => exact ⟨(m.cls, fun _ => 0), fun q hq => by cases hq⟩
    | some q =>
      obtain ⟨h1, n, h2⟩ := jcl_in k q hk
      obtain ⟨cC, iS, h3⟩ := u_known (ws := jTW) (s := s) (args := #[.ref b]) hJ h1 (hJ _ h2)
      exact ⟨(cC, iS), fun q' hq' => by cases hq'; exact h3⟩
  obtain ⟨cI, i1, i2⟩ := st_arr (ty := .int) (hT _ (jtm jt_1 45 rfl))
  obtain ⟨cJ, j1, j2⟩ := st_arr (ty := .long) (hT _ (jtm jt_7 29 rfl))
  obtain ⟨cC, c1, c2⟩ := st_arr (ty := .char) (hT _ (jtm jt_7 28 rfl))
  have hov : (Cond.arrayOver (.array .int)).before #[.ref b] s = true := hT _ (jtm jt_1 108 rfl)
  obtain ⟨comp, cO, kO, o1, o2, o3, o4, o5⟩ := arrayOverA_spec hov
  have o6 : ArrOfT s cO (.array .int) := fun n z => ⟨fun k q => (by cases q), kO, o3, comp, o4⟩
  refine ⟨(s.heap.size, (fun i => if i = 20 then t else adK i), (fun i => if i = 99 then b else adV i), (fun k => (Classical.choose (hcl k)).1, fun k => (Classical.choose (hcl k)).2), (fun k => match k with | 0 => cI | 1 => cJ | 2 => cC | _ => cO), true), rfl, rfl, rfl, ?_⟩
  refine ⟨⟨fun k q hq => Classical.choose_spec (hcl k) q hq, fun k q hk => ?_⟩, ⟨fun i hi => ?_, fun i j hi hj hij => ?_⟩, fun i q hq => ?_, fun q hq => va_Nw.of rfl (hT _ (jnest_in q hq)), (by simpa [Cond.before, Cond.holds, Cond.value] using hov), hCS, hF⟩
  · match k, hk with
    | 0, hk => cases hk; exact ⟨i1, i2⟩
    | 1, hk => cases hk; exact ⟨j1, j2⟩
    | 2, hk => cases hk; exact ⟨c1, c2⟩
    | 3, hk => cases hk; exact ⟨o6, o5⟩
    | k + 4, hk => cases hk
  · have h := hS.1 i hi
    have e1 : (if i = 20 then t else adK i) = adK i := if_neg (by omega)
    have e2 : (if i = 99 then b else adV i) = adV i := if_neg (by omega)
    show va_O "java/lang/String" (if i = 20 then t else adK i) _ s s.heap ∧ va_OF "java/lang/String" "coder" "B" (.int 0) (if i = 20 then t else adK i) _ s s.heap ∧ va_OF "java/lang/String" "value" "[B" (.ref (if i = 99 then b else adV i)) (if i = 20 then t else adK i) _ s s.heap ∧ va_T .byte (if i = 99 then b else adV i) _ _ _ s s.heap
    rw [e1, e2]
    exact h
  · have e1 : (if i = 20 then t else adK i) = adK i := if_neg (by omega)
    have e2 : (if j = 20 then t else adK j) = adK j := if_neg (by omega)
    have h : (if i = 20 then t else adK i) = (if j = 20 then t else adK j) := hij
    rw [e1, e2] at h
    exact hS.2 i j hi hj h
  · have hlt : i < 20 := (List.getElem?_eq_some_iff.mp hq).1
    have e1 : (if i = 20 then t else adK i) = adK i := if_neg (by omega)
    show vk_R q.1 q.2.1 q.2.2 (if i = 20 then t else adK i) s
    rw [e1]
    have he := hE i hlt
    unfold jtmS at he
    rw [List.getD_eq_getElem?_getD, hq] at he
    exact vk_R.of (hT _ (jsl_in q (List.mem_of_getElem? hq))) he
def lawM : SM := match dWs with
  | some q => dsm q.2.2.2
  | none => dsm []
theorem st_ret {p : Program} {l : Launch} {e : Env} {s : State} {m : MethodId} {below : List Frame} {meth : Method} {c : Code} {b : Nat} {G : JG} (hx : p.tables.exec = Jvm.exec) (hb : c.code = code) (hr : meth.sig.returnType = ret) (hlk : meth.locks = false) (hB : jB G = s.heap.size) {ce : Nat → va_E} {n pc : Nat} {ls : List (Option Value)} (hdg : decode code pc = .ok (.ireturn, 1)) : Wk p l e room_1 s m #[Value.ref b] below meth c G 4 (lw_Z below #[Value.ref b] s) 430 28833 n ce pc ls [.int 1] := by
  intro lsA H locs hl hr' hS
  exact va_forget (fun q hq => by rw [← hB]; exact hS.2.2 q hq) (W.widen (k := 600000) (n := 7302250) (by decide) (by decide) (lw_ret hx hb hr hlk hdg))
theorem st_whole (hpure : ∀ (scr : Nat → Int32) (L : Nat), L ≤ 3072 → ∃ M', f_Law scr L lawM = some (1, M')) {p : Program} {e : Env} {s : State} {m : MethodId} {below : List Frame} {meth : Method} {c : Code} (l : Launch) {b L : Nat} {xs : Nat → Int32} (hL : L ≤ 3072) (C0 : lw_At p s m meth c b L xs) : W p l e room_1 s m #[Value.ref b] below meth c s.heap [] 0 0 (lw_Z below #[Value.ref b] s) (entryFrame m ([Value.ref b] : List Value).toArray 4) := by
  obtain ⟨G, hB, F, hV, hXG⟩ := st_G C0
  obtain ⟨hx, hb, hr, hml, hown, hts, hX, hbl, hlk, hgv⟩ := C0
  have C : jCx p room_1 s m #[.ref b] meth c G code 4 1300 "SluicePitLaw" :=
    ⟨hx, hb, hml, hown, fun w hw => hts w (List.mem_filter.mp hw).1, hXG, Nat.le_of_eq hB, hlk, by decide, by decide, by decide⟩
  obtain ⟨M1, M2, M3, W0, w1, w2, w3, w4, w5, w6, w7⟩ := dW_ex
  have hM : lawM = dsm W0 := by unfold lawM; rw [w7]
  obtain ⟨M', hp⟩ := hpure xs L hL
  rw [hM] at hp
  have hA : [Value.ref b] = [Value.ref 2099].map (jV G) := by
    show _ = [Value.ref (jad G 2099)]
    rw [jad_v (by decide)]
    show _ = [Value.ref (jSv G 99)]
    rw [hV]
  have hl0 : jLs G ((lg_sl [Value.ref b] ++ List.replicate (4 - (lg_sl [Value.ref b]).length) Slot.unset).toArray) 4 [some (.ref 2099), none, none, none] := by
    rw [hA]
    have hl := lv_entry ([Value.ref 2099].map (jV G)) (n := 4) (Nat.le_of_ble_eq_true rfl)
    exact ⟨hl.1, hl.2.1, fun i v hv => by have := hl.2.2 _ (jent_in (G := G) [.ref 2099] 4 0 i v hv); rw [Nat.zero_add] at this; exact this⟩
  rw [lg_entry_eq]
  have hr0 : jRep G ([] : DM).length (dce G []) s.heap := ⟨Nat.le_of_eq hB, (fun _ => hB.symm), by decide, fun i q hq => by cases hq⟩
  have hSc : jSc (jst G) s xs L := ⟨by show va_X (jSv G 99) L xs s s.heap; rw [hV]; exact hX, by show jSv G 99 < _; rw [hV]; exact hbl, by show ¬ jB G ≤ jSv G 99; rw [hV, hB]; omega⟩
  have hC' : jCx p room_1 s m #[.ref b] meth c (jst G) code 4 1300 "SluicePitLaw" := C
  have k18 : Wk p l e room_1 s m #[.ref b] below meth c (jst G) 4 (lw_Z below #[Value.ref b] s) 430 28833 jN0 (jce (jst G) (dsm W0)) 18 [some (.ref 2099), some (.ref 0), some (.ref 366), some (.int 0)] [] :=
    K_Law hC' rfl (Nat.le_refl _) ⟨by decide, by decide⟩ hSc ⟨by decide, rfl⟩ ⟨by decide, rfl⟩ (dsm W0) (fun q => q.1 = 1) (fun v M'' hv pc ls hdg _ => by cases hv; exact st_ret (G := jst G) hx hb hr hlk hB hdg) (1, M') hp rfl
  have k18' : Wk p l e room_1 s m #[.ref b] below meth c G 4 (lw_Z below #[Value.ref b] s) 430 28833 W0.length (dce G W0) 18 [some (.ref 2099), some (.ref 0), some (.ref 366), some (.int 0)] [] := fun lsA H locs q1 q2 q3 => k18 lsA H locs q1 (dpass w6 q2) q3
  have k0 : Wk p l e room_1 s m #[.ref b] below meth c G 4 (lw_Z below #[Value.ref b] s) 0 0 ([] : DM).length (dce G []) 0 [some (.ref 2099), none, none, none] [] := by
    refine d_new (Cl := "SluicePit") (T := jT11) (N := 15) C F w1 (by decide) rfl jin11 jY11_ok jw_21 jw_22 jw_1 (dnew_def (Nat.le_of_ble_eq_true rfl) jdf_11) (by decide) (by decide) (jd jdt_Law_0 0 rfl) ?_
    refine w_dup_r C (jd jdt_Law_0 1 rfl) ?_
    refine w_callI (As := []) C jo_Sp_init (CD_Sp_init l G F 0 M1 w2) jw_23 jw_24 rfl (by decide) (by decide) rfl (Nat.le_of_ble_eq_true rfl) (jd jdt_Law_0 2 rfl) ⟨by decide, by decide⟩ ?_
    refine w_astore_n (ls' := [some (.ref 2099), some (.ref 0), none, none]) C (jd jdt_Law_0 3 rfl) (by decide) rfl rfl ?_
    refine d_new (Cl := "SluicePitModel") (T := jT12) (N := 100) C F w3 (by decide) rfl jin12 jY12_ok jw_1161 jw_1162 jw_14 (dnew_def (Nat.le_of_ble_eq_true rfl) jdf_12) (by decide) (by decide) (jd jdt_Law_0 4 rfl) ?_
    rw [w5]
    refine w_dup_r C (jd jdt_Law_0 5 rfl) ?_
    refine w_callI (As := []) C jo_Mo_init (CD_Mo_init l G F 366 M3 w4) jw_1163 jw_1164 rfl (by decide) (by decide) rfl (Nat.le_of_ble_eq_true rfl) (jd jdt_Law_0 6 rfl) ⟨by decide, by decide⟩ ?_
    refine w_astore_n (ls' := [some (.ref 2099), some (.ref 0), some (.ref 366), none]) C (jd jdt_Law_0 7 rfl) (by decide) rfl rfl ?_
    refine w_iconst_0 C (jd jdt_Law_0 8 rfl) ?_
    refine w_istore_n (ls' := [some (.ref 2099), some (.ref 0), some (.ref 366), some (.int 0)]) C (jd jdt_Law_0 9 rfl) (by decide) rfl rfl ?_
    exact k18'
  exact k0 _ s.heap [] hl0 hr0 va_S.rf
