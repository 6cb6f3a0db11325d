/-! ===== pure: what holds between two calls ===== -/
def y_cf (M M' : SM) : Prop := (∀ i, 366 ≤ i → M'.1 i = M.1 i) ∧ ∀ i, i ≠ 0 → M'.2 i = M.2 i
def y_rf (N N' : SM) : Prop := (∀ i, i < 366 → N'.1 i = N.1 i) ∧ N'.2 0 = N.2 0
/-- wet, draws, image, words, the spare opera -/
def y_rs (R o : Nat) (A : ZA) (wt : Nat) (wv : Nat → Nat) (m im : Nat) (M N : SM) : Prop :=
  (wt ≤ 1 ∧ (A 0 0 = 0 → wt = 0) ∧ M.1 0 11 = nI wt ∧ N.1 366 65 = nI wt ∧ (wt = 1 → ∀ c, c < A 0 0 → M.1 364 c = nI (wv c) ∧ N.1 405 c = nI (wv c) ∧ wv c < 256)) ∧
  (m < 2 ^ 31 ∧ M.2 0 12 = lN m ∧ N.2 366 67 = lN m) ∧
  (im ≤ 489 ∧ M.1 0 14 = nI im ∧ N.1 366 99 = nI im ∧ ∀ j, j < im → M.1 365 j = N.1 429 j) ∧ z_KW N ∧ jop (M.1 0 9) = R ∧ (R = 7 ∨ R = 57) ∧ o ≠ R
def y_tf (n : Nat) (T : Nat → Nat) (M N : SM) : Prop := z_wt n T ∧ z_tc n T M ∧ z_tm n T N ∧ M.1 3 5 = N.1 366 7 ∧ M.1 3 6 = N.1 366 8
def y_LP (M N : SM) : Prop := ∃ o R A nm P G hn n T wt wv m im, z_K o A nm P G hn M N ∧ y_tf n T M N ∧ y_rs R o A wt wv m im M N
section
variable {o R hn n wt m im : Nat} {A : ZA} {nm : Nat → Nat → Nat} {P P' : ZP} {G : Nat → ZP} {T wv : Nat → Nat} {M N M' N' S : SM}
theorem z_K.mv (h : z_K o A nm P G hn M N) (c0 : M'.1 0 8 = M.1 0 8) (c1 : ∀ i, 7 ≤ i → i < 319 → M'.1 i = M.1 i) (r0 : ∀ k, k = 31 ∨ k = 47 ∨ k = 48 ∨ k = 50 ∨ k = 63 ∨ k = 64 → N'.1 366 k = N.1 366 k) (r1 : ∀ i, 385 ≤ i → i < 405 → (i < 397 ∨ 400 < i) → N'.1 i = N.1 i) (r2 : N'.2 386 = N.2 386) : z_K o A nm P G hn M' N' := by
  obtain ⟨hW, hC, hM, hG0, hGW, hHC, hHR⟩ := h
  have ho := hC.1
  refine ⟨hW, hC.kp hW c0 (fun i a b => c1 i (by omega) (by omega)) (fun i a b => c1 i (by omega) (by omega)), ?_, hG0, hGW, hHC.fr (fun i a b => c1 i (by omega) (by omega)), hHR.fr (r0 63 (by omega)) (r0 64 (by omega)) (r1 404 (by omega) (by omega) (by omega))⟩
  obtain ⟨h1, h2, h3, h4, h5⟩ := hM
  exact ⟨h1.fr (r0 31 (by omega)) (fun i a b c => r1 i (by omega) (by omega) (by omega)), h2.fr (r1 391 (by omega) (by omega) (by omega)), fun q => (h3 q).fr (fun i a b => r1 i (by omega) (by omega) (by omega)), ⟨(r0 47 (by omega)).trans h4.1, (r0 48 (by omega)).trans h4.2.1, (r0 50 (by omega)).trans h4.2.2⟩, fun i w hi hw => by rw [r2]; exact h5 i w hi hw⟩
theorem y_rs.fr (h : y_rs R o A wt wv m im M N) (c9 : M'.1 0 9 = M.1 0 9) (c11 : M'.1 0 11 = M.1 0 11) (c14 : M'.1 0 14 = M.1 0 14) (c364 : M'.1 364 = M.1 364) (c365 : M'.1 365 = M.1 365) (r65 : N'.1 366 65 = N.1 366 65) (r99 : N'.1 366 99 = N.1 366 99) (r405 : N'.1 405 = N.1 405) (r429 : N'.1 429 = N.1 429) (l12 : M'.2 0 12 = M.2 0 12) (l67 : N'.2 366 67 = N.2 366 67) (kw : ∀ i, 368 ≤ i → i < 426 → (i < 385 ∨ 406 ≤ i) → N'.1 i = N.1 i) : y_rs R o A wt wv m im M' N' := by
  obtain ⟨⟨w1, w2, w3, w4, w5⟩, ⟨s1, s2, s3⟩, ⟨i1, i2, i3, i4⟩, k, p1, p2, p3⟩ := h
  exact ⟨⟨w1, w2, c11.trans w3, r65.trans w4, fun e c hc => by rw [c364, r405]; exact w5 e c hc⟩, ⟨s1, l12.trans s2, l67.trans s3⟩, ⟨i1, c14.trans i2, r99.trans i3, fun j hj => by rw [c365, r429]; exact i4 j hj⟩, k.fr kw, by rw [c9]; exact p1, p2, p3⟩
theorem y_tf.fr (h : y_tf n T M N) (c1 : M'.1 1 = M.1 1) (c2 : M'.1 2 = M.1 2) (c3 : M'.1 3 = M.1 3) (r0 : ∀ k, k = 1 ∨ k = 7 ∨ k = 8 → N'.1 366 k = N.1 366 k) (r367 : N'.1 367 = N.1 367) : y_tf n T M' N' := by
  obtain ⟨h1, h2, h3, h4, h5⟩ := h
  exact ⟨h1, h2.fr c1 c2, ⟨(r0 1 (by omega)).trans h3.1, fun k hk => by rw [r367]; exact h3.2 k hk⟩, by rw [c3, r0 7 (by omega)]; exact h4, by rw [c3, r0 8 (by omega)]; exact h5⟩
theorem y_tf.new {n' : Nat} {T' : Nat → Nat} (h : y_tf n T M N) (hw : z_wt n' T') (tc : z_tc n' T' M') (tm : z_tm n' T' N') (c3 : M'.1 3 = M.1 3) (r0 : ∀ k, k = 7 ∨ k = 8 → N'.1 366 k = N.1 366 k) : y_tf n' T' M' N' :=
  ⟨hw, tc, tm, by rw [c3, r0 7 (by omega)]; exact h.2.2.2.1, by rw [c3, r0 8 (by omega)]; exact h.2.2.2.2⟩
theorem y_LP.cl (h : y_LP M N) (f : ∀ i, i < 366 → M'.1 i = M.1 i) (l : M'.2 0 = M.2 0) : y_LP M' N := by
  obtain ⟨o, R, A, nm, P, G, hn, n, T, wt, wv, m, im, hK, hT, hR⟩ := h
  exact ⟨o, R, A, nm, P, G, hn, n, T, wt, wv, m, im, hK.mv (by rw [f 0 (by omega)]) (fun i a b => f i (by omega)) (fun _ _ => rfl) (fun _ _ _ _ => rfl) rfl, hT.fr (f 1 (by omega)) (f 2 (by omega)) (f 3 (by omega)) (fun _ _ => rfl) rfl, hR.fr (by rw [f 0 (by omega)]) (by rw [f 0 (by omega)]) (by rw [f 0 (by omega)]) (f 364 (by omega)) (f 365 (by omega)) rfl rfl rfl rfl (by rw [l]) rfl (fun _ _ _ _ => rfl)⟩
theorem y_LP.rf (h : y_LP M N) (f : ∀ i, 366 ≤ i → N'.1 i = N.1 i) (l : ∀ i, i ≠ 0 → N'.2 i = N.2 i) : y_LP M N' := by
  obtain ⟨o, R, A, nm, P, G, hn, n, T, wt, wv, m, im, hK, hT, hR⟩ := h
  exact ⟨o, R, A, nm, P, G, hn, n, T, wt, wv, m, im, hK.mv rfl (fun _ _ _ => rfl) (fun k _ => by rw [f 366 (by omega)]) (fun i a b c => f i (by omega)) (l 386 (by decide)), hT.fr rfl rfl rfl (fun k _ => by rw [f 366 (by omega)]) (f 367 (by omega)), hR.fr rfl rfl rfl rfl rfl (by rw [f 366 (by omega)]) (by rw [f 366 (by omega)]) (f 405 (by omega)) (f 429 (by omega)) rfl (by rw [l 366 (by decide)]) (fun i a b c => f i (by omega))⟩
/-- one call of both -/
def y_st1 {α : Type} (fc fr : SM → Option (α × SM)) : Prop := ∀ M N, y_LP M N → ∃ v M' N', fc M = some (v, M') ∧ fr N = some (v, N') ∧ y_LP M' N' ∧ y_cf M M' ∧ y_rf N N'
theorem y_two {α : Type} {fc fr : SM → Option (α × SM)} (st : y_st1 fc fr) (h : y_LP S S) : ∃ v S1 S2, fc S = some (v, S1) ∧ fr S1 = some (v, S2) ∧ y_LP S2 S2 := by
  obtain ⟨v, S1, _, e1, _, _, cf, _⟩ := st S S h
  obtain ⟨v', S1', S2, e1', e2, h2, _, rf⟩ := st S S1 (h.rf cf.1 cf.2)
  rw [e1] at e1'
  obtain ⟨rfl, rfl⟩ := Prod.mk.inj (Option.some.inj e1')
  exact ⟨v, S1, S2, e1, e2, h2.cl rf.1 rf.2⟩
theorem l_feed (a b c d e : Int32) : y_st1 (f_Sp_feed 0 a b c d e) (f_Mo_feed 366 a b c d e) := by
  intro M N ⟨o, R, A, nm, P, G, hn, n, T, wt, wv, m, im, hK, hT, hR⟩
  obtain ⟨v, M', N', n', T', e1, e2, hw, tc, tm, fM, fN, fk⟩ := g_feed hT.1 hT.2.1 hT.2.2.1 a b c d e
  refine ⟨v, M', N', e1, e2, ⟨o, R, A, nm, P, G, hn, n', T', wt, wv, m, im, hK.mv (by rw [fM.1 0 (by decide)]) (fun i a b => fM.1 i (by omega)) (fun k q => fk k (by omega)) (fun i a b c => fN.1 i (by omega)) (by rw [fN.2]), hT.new hw tc tm (fM.1 3 (by decide)) (fun k q => fk k (by omega)), hR.fr (by rw [fM.1 0 (by decide)]) (by rw [fM.1 0 (by decide)]) (by rw [fM.1 0 (by decide)]) (fM.1 364 (by decide)) (fM.1 365 (by decide)) (fk 65 (by decide)) (fk 99 (by decide)) (fN.1 405 (by decide)) (fN.1 429 (by decide)) (by rw [fM.2]) (by rw [fN.2]) (fun i a b c => fN.1 i (by omega))⟩, ⟨fun i hi => fM.1 i (by omega), fun i _ => by rw [fM.2]⟩, ⟨fun i hi => fN.1 i (by omega), by rw [fN.2]⟩⟩
theorem l_end (x : Int32) : y_st1 (f_Sp_end 0 x) (f_Mo_end 366 x) := by
  intro M N ⟨o, R, A, nm, P, G, hn, n, T, wt, wv, m, im, hK, hT, hR⟩
  obtain ⟨v, M', N', n', e1, e2, hw, tc, tm, fM, fN, fk⟩ := g_end hT.1 hT.2.1 hT.2.2.1 x
  refine ⟨v, M', N', e1, e2, ⟨o, R, A, nm, P, G, hn, n', T, wt, wv, m, im, hK.mv (by rw [fM.1 0 (by decide)]) (fun i a b => fM.1 i (by omega)) (fun k q => fk k (by omega)) (fun i a b c => fN.1 i (by omega)) (by rw [fN.2]), hT.new hw tc tm (fM.1 3 (by decide)) (fun k q => fk k (by omega)), hR.fr (by rw [fM.1 0 (by decide)]) (by rw [fM.1 0 (by decide)]) (by rw [fM.1 0 (by decide)]) (fM.1 364 (by decide)) (fM.1 365 (by decide)) (fk 65 (by decide)) (fk 99 (by decide)) (fN.1 405 (by decide)) (fN.1 429 (by decide)) (by rw [fM.2]) (by rw [fN.2]) (fun i a b c => fN.1 i (by omega))⟩, ⟨fun i hi => fM.1 i (by omega), fun i _ => by rw [fM.2]⟩, ⟨fun i hi => fN.1 i (by omega), by rw [fN.2]⟩⟩
theorem z_wt0 : z_wt 0 T := ⟨by decide, fun k hk => by omega⟩
theorem l_opera : y_st1 (f_Sp_opera 0) (f_Mo_opera 366) := by
  intro M N ⟨o, R, A, nm, P, G, hn, n, T, wt, wv, m, im, hK, hT, hR⟩
  obtain ⟨hw0, ho2, ho3⟩ := hR.2.2.2.2
  have ho := hK.2.1.1
  obtain ⟨v, M', N', e1, e2, tc, tm, fM, fM2, f0, fN, fN2, fk, q5, q6, hh⟩ := g_opera hK hw0 ho2 ho3 hT.1 hT.2.1 hT.2.2.1 hR.2.2.2.1
  refine ⟨v, M', N', e1, e2, ?_, ⟨fun i hi => fM i (by omega) (by omega) (by omega), fun i _ => by rw [fM2]⟩, ⟨fun i hi => fN i (by omega) (by omega), funext fun k => fN2 0 k (by decide)⟩⟩
  obtain ⟨⟨w1, w2, w3, w4, w5⟩, ⟨s1, s2, s3⟩, ⟨i1, i2, i3, i4⟩, k, p1, p2, p3⟩ := hR
  have im' : im ≤ 489 ∧ M'.1 0 14 = nI im ∧ N'.1 366 99 = nI im ∧ ∀ j, j < im → M'.1 365 j = N'.1 429 j := ⟨i1, (f0 14 (by decide) (by decide) (by decide)).trans i2, (fk 99 (by decide)).trans i3, fun j hj => by rw [fM 365 (by decide) (by decide) (by decide), fN 429 (by decide) (by decide)]; exact i4 j hj⟩
  have se : m < 2 ^ 31 ∧ M'.2 0 12 = lN m ∧ N'.2 366 67 = lN m := ⟨s1, by rw [fM2]; exact s2, (fN2 366 67 (by decide)).trans s3⟩
  have kw : z_KW N' := k.fr (fun i a b c => fN i (by omega) (by omega))
  rcases hh with ⟨hK', h9, h11, h65⟩ | ⟨A', nm', P', hK', h9, h11, h65⟩
  · exact ⟨o, R, A, nm, P, G, hn, 0, T, wt, wv, m, im, hK', ⟨z_wt0, tc, tm, q5, q6⟩, ⟨w1, w2, h11.trans w3, h65.trans w4, fun e c hc => by rw [fM 364 (by decide) (by decide) (by decide), fN 405 (by decide) (by decide)]; exact w5 e c hc⟩, se, im', kw, h9, p2, p3⟩
  · exact ⟨R, o, A', nm', P', _, 0, 0, T, 0, wv, m, im, hK', ⟨z_wt0, tc, tm, q5, q6⟩, ⟨by decide, fun _ => rfl, h11, h65, fun e => by cases e⟩, se, im', kw, h9, ho, fun e => p3 e.symm⟩
theorem l_mark (x y z w : Int32) : y_st1 (f_Sp_mark 0 x y z w) (f_Mo_mark 366 x y z w) := by
  intro M N ⟨o, R, A, nm, P, G, hn, n, T, wt, wv, m, im, hK, hT, hR⟩
  obtain ⟨v, M', N', P', G', hn', e1, e2, hK', a, b⟩ := g_mark hK x y z w
  refine ⟨v, M', N', e1, e2, ⟨o, R, A, nm, P', G', hn', n, T, wt, wv, m, im, hK', hT.fr (a.1 1 (by omega)) (a.1 2 (by omega)) (a.1 3 (by omega)) (fun k q => b.2 k (by omega)) (b.1.1 367 (by omega)), hR.fr (by rw [a.1 0 (by omega)]) (by rw [a.1 0 (by omega)]) (by rw [a.1 0 (by omega)]) (a.1 364 (by omega)) (a.1 365 (by omega)) (b.2 65 (by omega)) (b.2 99 (by omega)) (b.1.1 405 (by omega)) (b.1.1 429 (by omega)) (by rw [a.2]) (by rw [b.1.2]) (fun i _ _ _ => b.1.1 i (by omega))⟩, ⟨fun i hi => a.1 i (by omega), fun i _ => by rw [a.2]⟩, ⟨fun i hi => b.1.1 i (by omega), by rw [b.1.2]⟩⟩
theorem l_undo : y_st1 (f_Sp_undo 0) (f_Mo_undo 366) := by
  intro M N ⟨o, R, A, nm, P, G, hn, n, T, wt, wv, m, im, hK, hT, hR⟩
  obtain ⟨v, M', N', P', G', hn', e1, e2, hK', a, b⟩ := g_undo hK
  refine ⟨v, M', N', e1, e2, ⟨o, R, A, nm, P', G', hn', n, T, wt, wv, m, im, hK', hT.fr (a.1 1 (by omega)) (a.1 2 (by omega)) (a.1 3 (by omega)) (fun k q => b.2 k (by omega)) (b.1.1 367 (by omega)), hR.fr (by rw [a.1 0 (by omega)]) (by rw [a.1 0 (by omega)]) (by rw [a.1 0 (by omega)]) (a.1 364 (by omega)) (a.1 365 (by omega)) (b.2 65 (by omega)) (b.2 99 (by omega)) (b.1.1 405 (by omega)) (b.1.1 429 (by omega)) (by rw [a.2]) (by rw [b.1.2]) (fun i _ _ _ => b.1.1 i (by omega))⟩, ⟨fun i hi => a.1 i (by omega), fun i _ => by rw [a.2]⟩, ⟨fun i hi => b.1.1 i (by omega), by rw [b.1.2]⟩⟩
theorem l_teach (x : Int32) : y_st1 (f_Sp_teach 0 x) (f_Mo_teach 366 x) := by
  intro M N ⟨o, R, A, nm, P, G, hn, n, T, wt, wv, m, im, hK, hT, hR⟩
  obtain ⟨v, M', N', P', G', hn', e1, e2, hK', tc, tm, fM, fN, fN2, fk, q5, q6⟩ := g_teach hK hT.1 hT.2.1 hT.2.2.1 hR.2.2.2.1 hT.2.2.2 x
  refine ⟨v, M', N', e1, e2, ⟨o, R, A, nm, P', G', hn', 0, T, wt, wv, m, im, hK', ⟨z_wt0, tc, tm, q5, q6⟩, hR.fr (by rw [fM.1 0 (by omega)]) (by rw [fM.1 0 (by omega)]) (by rw [fM.1 0 (by omega)]) (fM.1 364 (by omega)) (fM.1 365 (by omega)) (fk 65 (by omega)) (fk 99 (by omega)) (fN 405 (by omega) (by omega)) (fN 429 (by omega) (by omega)) (by rw [fM.2]) (by rw [fN2]) (fun i _ _ _ => fN i (by omega) (by omega))⟩, ⟨fun i hi => fM.1 i (by omega), fun i _ => by rw [fM.2]⟩, ⟨fun i hi => fN i (by omega) (by omega), by rw [fN2]⟩⟩
/-- what is only supposed -/
theorem y_LP.vk (hK : z_K o A nm P G hn M N) (hT : y_tf n T M N) (hR : y_rs R o A wt wv m im M N) (a : z_Fr (fun i => i < 319 ∨ 321 < i) M M') (b : z_VK N N') (s : z_NS N') : y_LP M' N' ∧ y_cf M M' ∧ y_rf N N' := by
  refine ⟨⟨o, R, A, nm, P, G, hn, n, T, wt, wv, m, im, ?_, hT.fr (a.1 1 (by omega)) (a.1 2 (by omega)) (a.1 3 (by omega)) (fun k q => b.2 k (by omega)) (b.1.1 367 (by omega)), hR.fr (by rw [a.1 0 (by omega)]) (by rw [a.1 0 (by omega)]) (by rw [a.1 0 (by omega)]) (a.1 364 (by omega)) (a.1 365 (by omega)) (b.2 65 (by omega)) (b.2 99 (by omega)) (b.1.1 405 (by omega)) (b.1.1 429 (by omega)) (by rw [a.2]) (by rw [b.1.2]) (fun i _ _ _ => b.1.1 i (by omega))⟩, ⟨fun i hi => a.1 i (by omega), fun i _ => by rw [a.2]⟩, ⟨fun i hi => b.1.1 i (by omega), by rw [b.1.2]⟩⟩
  obtain ⟨hW, hC, hM, hG0, hGW, hHC, hHR⟩ := hK
  exact ⟨hW, hC.fr hW a, hM.vk b s, hG0, hGW, hHC.fr (fun i p q => a.1 i (by omega)), hHR.fr (b.2 63 (by omega)) (b.2 64 (by omega)) (b.1.1 404 (by omega))⟩
theorem l_stop (x y z : Int32) : y_st1 (f_Sp_stop 0 x y z) (f_Mo_stop 366 x y z) := by
  intro M N ⟨o, R, A, nm, P, G, hn, n, T, wt, wv, m, im, hK, hT, hR⟩
  obtain ⟨v, M', N', e1, e2, a, b, s⟩ := g_few (st := 1) hK.1 hK.2.1 hK.2.2.1 x y z
  exact ⟨v, M', N', by unfold f_Sp_stop; rw [e1]; rfl, by unfold f_Mo_stop; rw [e2]; rfl, y_LP.vk hK hT hR a b s⟩
theorem l_bring (x y z : Int32) : y_st1 (f_Sp_bring 0 x y z) (f_Mo_bring 366 x y z) := by
  intro M N ⟨o, R, A, nm, P, G, hn, n, T, wt, wv, m, im, hK, hT, hR⟩
  obtain ⟨v, M', N', e1, e2, a, b, s⟩ := g_few (st := 0) hK.1 hK.2.1 hK.2.2.1 x y z
  exact ⟨v, M', N', by unfold f_Sp_bring; rw [e1]; rfl, by unfold f_Mo_bring; rw [e2]; rfl, y_LP.vk hK hT hR a b s⟩
theorem l_early (x y : Int32) : y_st1 (f_Sp_early 0 x y) (f_Mo_early 366 x y) := by
  intro M N ⟨o, R, A, nm, P, G, hn, n, T, wt, wv, m, im, hK, hT, hR⟩
  obtain ⟨w1, w2, w3, w4, w5⟩ := hR.1
  obtain ⟨v, M', N', e1, e2, a, b, s⟩ := g_early (wv := wv) hK.1 hK.2.1 hK.2.2.1 w1 w2 w3 w4 (fun e c hc => ⟨(w5 e c hc).1, (w5 e c hc).2.2⟩) (fun e c hc => (w5 e c hc).2) x y
  exact ⟨v, M', N', e1, e2, y_LP.vk hK hT hR a b s⟩
theorem l_encore (x y : Int32) : y_st1 (f_Sp_encore 0 x y) (f_Mo_encore 366 x y) := by
  intro M N ⟨o, R, A, nm, P, G, hn, n, T, wt, wv, m, im, hK, hT, hR⟩
  obtain ⟨v, M', N', e1, e2, a, b, s⟩ := g_encore hK.1 hK.2.1 hK.2.2.1 x y
  exact ⟨v, M', N', e1, e2, y_LP.vk hK hT hR a b s⟩
theorem l_wet : y_st1 (f_Sp_wet 0) (f_Mo_wet 366) := by
  intro M N ⟨o, R, A, nm, P, G, hn, n, T, wt, wv, m, im, hK, hT, hR⟩
  have hA := hK.1.1.1
  obtain ⟨v, M', N', e1, e2, tc, tm, fM, f0, fN, fk, hh⟩ := g_wet hK.1 hK.2.1 hK.2.2.1 hT.1 hT.2.1 hT.2.2.1
  have hK' : z_K o A nm P G hn M' N' := hK.mv (f0 8 (by decide)) (fun i a b => fM.1 i (by omega)) (fun k q => fk k (by omega) (by omega)) (fun i a b c => fN.1 i (by omega)) (by rw [fN.2])
  have hT' : y_tf 0 T M' N' := hT.new z_wt0 tc tm (fM.1 3 (by decide)) (fun k q => fk k (by omega) (by omega))
  refine ⟨v, M', N', e1, e2, ?_, ⟨fun i hi => fM.1 i (by omega), fun i _ => by rw [fM.2]⟩, ⟨fun i hi => fN.1 i (by omega), by rw [fN.2]⟩⟩
  obtain ⟨⟨w1, w2, w3, w4, w5⟩, ⟨s1, s2, s3⟩, ⟨i1, i2, i3, i4⟩, k, p1, p2, p3⟩ := hR
  have im' : im ≤ 489 ∧ M'.1 0 14 = nI im ∧ N'.1 366 99 = nI im ∧ ∀ j, j < im → M'.1 365 j = N'.1 429 j := ⟨i1, (f0 14 (by decide)).trans i2, (fk 99 (by decide) (by decide)).trans i3, fun j hj => by rw [fM.1 365 (by decide), fN.1 429 (by decide)]; exact i4 j hj⟩
  have se : m < 2 ^ 31 ∧ M'.2 0 12 = lN m ∧ N'.2 366 67 = lN m := ⟨s1, by rw [fM.2]; exact s2, by rw [fN.2]; exact s3⟩
  have kw : z_KW N' := k.fr (fun i a b c => fN.1 i (by omega))
  have p1' : jop (M'.1 0 9) = R := by rw [f0 9 (by decide)]; exact p1
  rcases hh with ⟨h0, hn0, h11, h65, hc⟩ | ⟨h11, h65, h364, h405⟩
  · exact ⟨o, R, A, nm, P, G, hn, 0, T, 1, T, m, im, hK', hT', ⟨by decide, fun e => by omega, h11, h65, fun _ c c0 => ⟨(hc c c0).1, (hc c c0).2, hT.1.2 c (by omega)⟩⟩, se, im', kw, p1', p2, p3⟩
  · exact ⟨o, R, A, nm, P, G, hn, 0, T, wt, wv, m, im, hK', hT', ⟨w1, w2, h11.trans w3, h65.trans w4, fun e c c0 => by rw [h364, h405]; exact w5 e c c0⟩, se, im', kw, p1', p2, p3⟩
theorem y_LP.dk {m' : Nat} (hK : z_K o A nm P G hn M N) (hT : y_tf n T M N) (hR : y_rs R o A wt wv m im M N) (a : z_DK M M') (b : z_EK N N') (hm : m' < 2 ^ 31) (l1 : M'.2 0 12 = lN m') (l2 : N'.2 366 67 = lN m') : y_LP M' N' ∧ y_cf M M' ∧ y_rf N N' := by
  obtain ⟨⟨w1, w2, w3, w4, w5⟩, ⟨s1, s2, s3⟩, ⟨i1, i2, i3, i4⟩, k, p1, p2, p3⟩ := hR
  refine ⟨⟨o, R, A, nm, P, G, hn, n, T, wt, wv, m', im, hK.mv (by rw [a.1]) (fun i _ _ => by rw [a.1]) (fun k _ => by rw [b.1]) (fun i _ _ _ => by rw [b.1]) (b.2.1 386 (by decide)), hT.fr (by rw [a.1]) (by rw [a.1]) (by rw [a.1]) (fun k _ => by rw [b.1]) (by rw [b.1]), ⟨w1, w2, by rw [a.1]; exact w3, by rw [b.1]; exact w4, fun e c c0 => by rw [a.1, b.1]; exact w5 e c c0⟩, ⟨hm, l1, l2⟩, ⟨i1, by rw [a.1]; exact i2, by rw [b.1]; exact i3, fun j hj => by rw [a.1, b.1]; exact i4 j hj⟩, k.fr (fun i _ _ _ => by rw [b.1]), by rw [a.1]; exact p1, p2, p3⟩, ⟨fun i _ => by rw [a.1], fun i hi => a.2 i hi⟩, ⟨fun i _ => by rw [b.1], b.2.1 0 (by decide)⟩⟩
theorem l_trout (x y z : Int32) : y_st1 (f_Sp_trout 0 x y z) (f_Mo_trout 366 x y z) := by
  intro M N ⟨o, R, A, nm, P, G, hn, n, T, wt, wv, m, im, hK, hT, hR⟩
  obtain ⟨v, M', N', m', e1, e2, a, b, hm, l1, l2⟩ := g_trout hK.1 hK.2.1 hK.2.2.1 hR.2.1.1 hR.2.1.2.1 hR.2.1.2.2 x y z
  exact ⟨v, M', N', e1, e2, y_LP.dk hK hT hR a b hm l1 l2⟩
theorem l_seed (x : Int32) : y_st1 (f_Sp_seed 0 x) (f_Mo_seed 366 x) := by
  intro M N ⟨o, R, A, nm, P, G, hn, n, T, wt, wv, m, im, hK, hT, hR⟩
  obtain ⟨v, M', N', m', e1, e2, a, b, hm, l1, l2⟩ := g_seed hR.2.1.1 hR.2.1.2.1 hR.2.1.2.2 x
  exact ⟨v, M', N', e1, e2, y_LP.dk hK hT hR a b hm l1 l2⟩
theorem l_ask : y_st1 (f_Sp_ask 0) (f_Mo_ask 366) := by
  intro M N ⟨o, R, A, nm, P, G, hn, n, T, wt, wv, m, im, hK, hT, hR⟩
  obtain ⟨v, M', N', e1, e2, hK', tc, tm, fM, fM2, x, q5, q6⟩ := g_askQ hK hT.1 hT.2.1 hT.2.2.1 hR.2.2.2.1 hT.2.2.2
  have f0 := fM 0 (by decide) (by decide) (by decide) (by decide)
  refine ⟨v, M', N', e1, e2, ⟨o, R, A, nm, P, G, hn, 0, T, wt, wv, m, im, hK', ⟨z_wt0, tc, tm, q5, q6⟩, hR.fr (by rw [f0]) (by rw [f0]) (by rw [f0]) (fM 364 (by decide) (by decide) (by decide) (by decide)) (fM 365 (by decide) (by decide) (by decide) (by decide)) (x.2.1 65 (by omega) (by omega) (by omega)) (x.2.1 99 (by omega) (by omega) (by omega)) (x.1 405 (by omega) (by omega) (by omega)) (x.1 429 (by omega) (by omega) (by omega)) (by rw [fM2]) (x.2.2.2 67 (by decide)) (fun i _ _ _ => x.1 i (by omega) (by omega) (by omega))⟩, ⟨fun i hi => fM i (by omega) (by omega) (by omega) (by omega), fun i _ => by rw [fM2]⟩, ⟨fun i hi => x.1 i (by omega) (by omega) (by omega), x.2.2.1 0 (by decide) (by decide)⟩⟩
theorem l_image : y_st1 (f_Sp_image 0) (f_Mo_image 366) := by
  intro M N ⟨o, R, A, nm, P, G, hn, n, T, wt, wv, m, im, hK, hT, hR⟩
  obtain ⟨v, M', N', im', e1, e2, i1, i2, i3, i4, fM, f0, x⟩ := g_image hK.1 hK.2.1 hK.2.2.1
  obtain ⟨⟨w1, w2, w3, w4, w5⟩, ⟨s1, s2, s3⟩, _, k, p1, p2, p3⟩ := hR
  refine ⟨v, M', N', e1, e2, ⟨o, R, A, nm, P, G, hn, n, T, wt, wv, m, im', hK.mv (f0 8 (by decide)) (fun i a b => fM.1 i (by omega)) (fun k q => x.2 k (by omega)) (fun i a b c => x.1.1 i (by omega)) (by rw [x.1.2]), hT.fr (fM.1 1 (by decide)) (fM.1 2 (by decide)) (fM.1 3 (by decide)) (fun k q => x.2 k (by omega)) (x.1.1 367 (by decide)), ⟨w1, w2, (f0 11 (by decide)).trans w3, (x.2 65 (by decide)).trans w4, fun e c c0 => by rw [fM.1 364 (by decide), x.1.1 405 (by decide)]; exact w5 e c c0⟩, ⟨s1, by rw [fM.2]; exact s2, by rw [x.1.2]; exact s3⟩, ⟨i1, i2, i3, i4⟩, k.fr (fun i a b c => x.1.1 i (by omega)), by rw [f0 9 (by decide)]; exact p1, p2, p3⟩, ⟨fun i hi => fM.1 i (by omega), fun i _ => by rw [fM.2]⟩, ⟨fun i hi => x.1.1 i (by omega), by rw [x.1.2]⟩⟩
theorem l_on : y_st1 (f_Sp_on 0) (f_Mo_on 366) := by
  intro M N ⟨o, R, A, nm, P, G, hn, n, T, wt, wv, m, im, hK, hT, hR⟩
  obtain ⟨v, M', N', P', G', hn', e1, e2, hK', tc, tm, fM, fN, fk⟩ := g_on hK hT.1 hT.2.1 hT.2.2.1
  refine ⟨v, M', N', e1, e2, ⟨o, R, A, nm, P', G', hn', 0, T, wt, wv, m, im, hK', hT.new z_wt0 tc tm (fM.1 3 (by omega)) (fun k q => fk k (by omega) (by omega)), hR.fr (by rw [fM.1 0 (by omega)]) (by rw [fM.1 0 (by omega)]) (by rw [fM.1 0 (by omega)]) (fM.1 364 (by omega)) (fM.1 365 (by omega)) (fk 65 (by omega) (by omega)) (fk 99 (by omega) (by omega)) (fN.1 405 (by omega)) (fN.1 429 (by omega)) (by rw [fM.2]) (by rw [fN.2]) (fun i _ _ _ => fN.1 i (by omega))⟩, ⟨fun i hi => fM.1 i (by omega), fun i _ => by rw [fM.2]⟩, ⟨fun i hi => fN.1 i (by omega), by rw [fN.2]⟩⟩
end
