/-! PURE 85: a step of the word, on both sides -/
def stS (s : Nat → Bool) (x : Nat) : Nat → Bool := fun w => if w = x then true else s w
theorem stS_eq (s : Nat → Bool) (x : Nat) : stS s x x = true := by unfold stS; rw [if_pos rfl]
theorem stS_ne (s : Nat → Bool) {x w : Nat} (h : w ≠ x) : stS s x w = s w := by unfold stS; rw [if_neg h]
theorem stS_f {s : Nat → Bool} {x w : Nat} (h : stS s x w = false) : w ≠ x ∧ s w = false := by
  by_cases c : w = x
  · rw [c, stS_eq] at h; cases h
  · rw [stS_ne s c] at h; exact ⟨c, h⟩
def WBd (D : Da) (T : Nat → Int) (s : Nat → Bool) (c : Nat) : Prop := (∀ w, -1 ≤ T w ∧ T w < ((c : Int) + 1) * 2 ^ 29) ∧ (∀ w, 0 ≤ T w → w < D.w ∧ D.go w = true) ∧ (∀ w, s w = true → w < D.w ∧ 0 ≤ T w) ∧ cnt s D.w = c
theorem WBd.c8 {D : Da} {T : Nat → Int} {s : Nat → Bool} {c : Nat} (I : DI D) (B : WBd D T s c) : c ≤ D.w ∧ D.w ≤ 8 := ⟨by rw [← B.2.2.2]; exact cnt_le s D.w, I.w8⟩
theorem WBd.tb {D : Da} {T : Nat → Int} {s : Nat → Bool} {c : Nat} (I : DI D) (B : WBd D T s c) : ∀ w, -1 ≤ T w ∧ T w < 2 ^ 40 := fun w => by
  have h := B.1 w
  have h8 := B.c8 I
  omega
theorem cnt_stS {s : Nat → Bool} {x n : Nat} (sx : s x = false) (hx : x < n) : cnt (stS s x) n = cnt s n + 1 := (cnt_clear (p := stS s x) (q := s) (stS_eq s x) sx (fun w h => (stS_ne s h).symm) n hx).symm
theorem WBd.step {D : Da} {T T' : Nat → Int} {s : Nat → Bool} {c x : Nat} {Q : Nat → Int64 → Prop} (B : WBd D T s c) (hx : x < D.w) (sx : s x = false) (tx : 0 ≤ T x) (S : StW D (T x).toNat T (stS s x) 0 T' Q) : WBd D T' (stS s x) (c + 1) := by
  refine ⟨fun w => ?_, fun w h => ?_, fun w h => ?_, ?_⟩
  · have b := B.1 w
    have bx := B.1 x
    by_cases n : 0 ≤ w ∧ w < D.w ∧ D.go w = true ∧ stS s x w = false
    · obtain ⟨z, _, z1, z2, e⟩ := S.2 w n.1 n.2.1 n.2.2.1 n.2.2.2
      rw [e]
      exact nwT_b z1 (by omega) b.1 (by omega)
    · rw [S.1 w n]
      omega
  · by_cases n : 0 ≤ w ∧ w < D.w ∧ D.go w = true ∧ stS s x w = false
    · exact ⟨n.2.1, n.2.2.1⟩
    · rw [S.1 w n] at h
      exact B.2.1 w h
  · have e : T' w = T w := S.1 w (fun n => by rw [h] at n; exact absurd n.2.2.2 (by decide))
    rw [e]
    by_cases q : w = x
    · rw [q]; exact ⟨hx, tx⟩
    · rw [stS_ne s q] at h
      exact B.2.2.1 w h
  · rw [cnt_stS sx hx, B.2.2.2]
theorem M_step (N : Nat) (hN : 61000 ≤ N) {D : Da} (I : DI D) (sh : D.short) {T : Nat → Int} {s : Nat → Bool} {c x : Nat} (μ : Mm) (M : DM D μ) (e0 : μ.1 0 27 = nI 0) (W : MW D T s μ) (B : WBd D T s c) (hx : x < D.w) (sx : s x = false) (tx : 0 ≤ T x) (n : Nat) : ∃ T' μ', f_M_layWord_L46 N (n + 1) (nI x) μ = f_M_layWord_L46 N n (zI (ErT T' (stS s x) D.w)) μ' ∧ MFr μ μ' ∧ MW D T' (stS s x) μ' ∧ StW D (T x).toNat T (stS s x) 0 T' (fun w r => D.MR x w (T x).toNat (((T x).toNat / 27720 + D.j2 x w + 1) * 27720) r) ∧ WBd D T' (stS s x) (c + 1) := by
  have w8 := I.w8
  have gx := (B.2.1 x tx).2
  have tb := B.tb I
  have bx := tb x
  rw [f_M_layWord_L46]
  rw [if_neg (show ¬ nI x = (-9 : Int32) from fun q => by rw [eq_I, tI (by omega), show (-9 : Int32).toInt = -9 from rfl] at q; omega), if_pos (ixb_t (show x < 8 by omega) (show 8 < 2 ^ 31 by decide)), nI_clamp (show x < 2 ^ 31 by omega), show vp_nar .boolean (1 : Int32) = 1 from rfl]
  simp only []
  have f1 := MFr.i23 μ x 1
  have W1 : MW D T (stS s x) (sI μ 23 x 1) := fun w hw => by
    refine ⟨(W w hw).1, ?_⟩
    rw [sI_at]
    by_cases q : w = x
    · rw [q, upd_eq, stS_eq]; rfl
    · rw [upd_ne _ _ q, stS_ne s q]; exact (W w hw).2
  obtain ⟨T', μ', k1, k2, k3, k4⟩ := M_tell_loop N hN I sh hx gx (F := (T x).toNat) (by omega) (stS s x) (stS_eq s x) (f_M_layWord_L46 N n) N 0 T (sI μ 23 x 1) (f1.dm M) ((f1.1 27 (by decide)).trans e0) W1 (by omega) (fun w => by have := tb w; omega) (by omega) (by omega)
  have B' := B.step hx sx tx k4
  have fr := f1.trans k2
  have tb' := B'.tb I
  rw [show nI 0 = (0 : Int32) from rfl] at k1
  refine ⟨T', μ', ?_, fr, k3, k4, B'⟩
  rw [k1]
  exact M_er_loop N I T' (stS s x) (f_M_layWord_L46 N n) μ' (fr.dm M) k3 (fun w => by have := tb' w; omega) N 0 (by omega) (by omega)
theorem M_rest (N : Nat) (hN : 61000 ≤ N) {D : Da} (I : DI D) (sh : D.short) : ∀ (n c : Nat) (T : Nat → Int) (s : Nat → Bool) (μ : Mm), DM D μ → μ.1 0 27 = nI 0 → MW D T s μ → WBd D T s c → D.w < n + c → ∃ (T' : Nat → Int) (μ' : Mm), f_M_layWord_L46 N n (zI (ErT T s D.w)) μ = some μ' ∧ MFr μ μ' ∧ (∀ w, w < D.w → μ'.2 22 w = zL (T' w)) ∧ (∀ w, s w = true → T' w = T w) ∧ (∀ w, -1 ≤ T' w ∧ T' w < 2 ^ 40) := by
  intro n
  induction n with
  | zero => intro c T s μ _ _ _ B h; have := B.c8 I; omega
  | succ n ih =>
    intro c T s μ M e0 W B h
    rcases ErT_spec T s D.w with ⟨e, q⟩ | ⟨x, x1, e, x2, x3⟩
    · rw [e, f_M_layWord_L46, if_pos (show zI (-9) = (-9 : Int32) from rfl)]
      exact ⟨T, μ, rfl, MFr.refl _, fun w hw => (W w hw).1, fun w _ => rfl, B.tb I⟩
    · obtain ⟨T', μ', k1, k2, k3, k4, k5⟩ := M_step N hN I sh μ M e0 W B x1 x2 x3 n
      obtain ⟨T2, μ2, l1, l2, l3, l4, l5⟩ := ih (c + 1) T' (stS s x) μ' (k2.dm M) ((k2.1 27 (by decide)).trans e0) k3 k5 (by omega)
      rw [e, ← zI_n, k1, l1]
      refine ⟨T2, μ2, rfl, k2.trans l2, l3, fun w sw => ?_, l5⟩
      have su : stS s x w = true := by
        by_cases q : w = x
        · rw [q]; exact stS_eq s x
        · rw [stS_ne s q]; exact sw
      rw [l4 w su, k4.1 w (fun r => by rw [su] at r; exact absurd r.2.2.2 (by decide))]
theorem wtB_up {D : Da} (s : Nat → Bool) (x : Nat) : anN (wtB D s) (2 ^ x) = wtB D (stS s x) := by
  refine Nat.eq_of_testBit_eq (fun i => ?_)
  rw [anN_tb, wtB_tb, wtB_tb, Nat.testBit_two_pow]
  by_cases c : i = x
  · rw [c, stS_eq, decide_eq_true (show x = x from rfl)]
    cases decide (x < D.w) <;> cases D.go x <;> cases s x <;> rfl
  · rw [stS_ne s c, decide_eq_false (show ¬ x = i from fun q => c q.symm)]
    cases decide (i < D.w) <;> cases D.go i <;> cases s i <;> rfl
theorem hvB_up {s : Nat → Bool} {x n : Nat} (hx : x < n) : bsN s n ||| 2 ^ x = bsN (stS s x) n := by
  refine Nat.eq_of_testBit_eq (fun i => ?_)
  rw [Nat.testBit_or, bsN_tb, bsN_tb, Nat.testBit_two_pow]
  by_cases c : i = x
  · rw [c, stS_eq, decide_eq_true (show x = x from rfl), decide_eq_true hx, Bool.or_true]; rfl
  · rw [stS_ne s c, decide_eq_false (show ¬ x = i from fun q => c q.symm), Bool.or_false]
theorem hvB_lt {D : Da} (I : DI D) (s : Nat → Bool) : bsN s D.w < 256 := by
  have h1 := bsN_lt s D.w
  have h2 : 2 ^ D.w ≤ 2 ^ 8 := Nat.pow_le_pow_right (by decide) I.w8
  omega
theorem X_step (N : Nat) (hN : 61000 ≤ N) {D : Da} (I : DI D) (sh : D.short) {T : Nat → Int} {s : Nat → Bool} {c x A : Nat} (hA : A < 256) (μ : Mm) (X : DX D μ) (C : CrewOk D μ) (W : XW T μ) (B : WBd D T s c) (e : ErT T s D.w = (x : Int)) (hx : x < D.w) (sx : s x = false) (tx : 0 ≤ T x) (nA : bsN s D.w &&& A = 0) (m : Nat) : ∃ T' μ', f_Me_pass_L48 N (m + 1) (nI A) (nI (wtB D s)) (nI (bsN s D.w)) (nI c) μ = f_Me_pass_L48 N m (nI A) (nI (wtB D (stS s x))) (nI (bsN (stS s x) D.w)) (nI (c + 1)) μ' ∧ XFr μ μ' ∧ XW T' μ' ∧ StW D (T x).toNat T (stS s x) 0 T' (fun w r => D.CR x w (T x).toNat (D.j2 x w) r) := by
  have w8 := I.w8
  have gx := (B.2.1 x tx).2
  have tb := B.tb I
  have bx := tb x
  have h8 := B.c8 I
  have wl := wtB_lt I s
  have hl := hvB_lt I s
  have c7 : c < 8 := by
    have h1 := cnt_stS sx hx
    have h2 := cnt_le (stS s x) D.w
    have h3 := B.2.2.2
    omega
  have px : 2 ^ x < 2 ^ 8 := Nat.pow_lt_pow_right (by decide) (by omega)
  rw [f_Me_pass_L48, if_neg (show ¬ (8 : Int32) ≤ nI c from nI_ge (b := 8) c7 (by decide)), andN (by omega) (by omega), nA, if_pos (show nI 0 = (0 : Int32) from rfl), X_er_eq N (by omega) I T s μ W (fun w => by have := tb w; omega) B.2.1, bnS, e, ← zI_n, if_pos (show (0 : Int32) ≤ nI x by rw [le_I, tI (by omega), show (0 : Int32).toInt = 0 from rfl]; omega)]
  simp only []
  rw [clr_bit (by omega) (by omega), shl1 (by omega), orN (by omega) (by omega), wtB_up, hvB_up hx, ← nI_succ]
  obtain ⟨T', μ', k1, k2, k3, k4⟩ := X_tell_loop N hN I sh hx gx (F := (T x).toNat) (by omega) (stS s x) (stS_eq s x) N 0 T μ X C W (by omega) (fun w => by have := tb w; omega) (by omega) (by omega)
  have k1' : f_Me_tellOthers N (nI x) (nI (wtB D (stS s x))) μ = some μ' := k1
  rw [k1', bvS]
  exact ⟨T', μ', rfl, k2, k3, k4⟩
