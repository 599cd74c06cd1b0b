/-! PURE 47: the whole look of the class, told in the words of the reference's reading -/
theorem sq_round {D : Da} {S : Nat → Bool} (hw : D.jn S D.w ≤ 14400) (p t : Nat) : D.sq S p (t + D.jn S D.w) = D.sq S p t := by
  unfold Da.sq
  rw [D.sa_round S (t := ((t + D.jn S D.w : Nat) : Int)) (u := (t : Int)) D.w (fun x hx hs => ?_)]
  rw [show ((t + D.jn S D.w : Nat) : Int) - t = (D.jn S D.w : Int) by omega]
  exact Int.ofNat_dvd.mpr (D.jn_dvd S hw D.w (Nat.le_refl _) x hx hs)
theorem vis_ev {D : Da} (I : DI D) {j p : Nat} {t : Int} (hj : j < D.w) (g : D.go j = true) (h : (D.vis j t).testBit p = true) : (D.ev j).testBit p = true := by
  unfold Da.ev
  unfold Da.vis at h
  by_cases c : D.kd j = 3
  · rw [if_pos c] at h ⊢
    exact h
  · rw [if_neg c] at h ⊢
    by_cases r : D.hr j t = true
    · rw [if_pos r] at h
      exact (D.os_tb j p (D.sz j)).mpr ⟨D.hl j t, (I.hl_spec hj g c t).1, h⟩
    · rw [if_neg r, Nat.zero_testBit] at h
      cases h
/-- what is ever seen is seen within the joint time -/
theorem ev_sees {D : Da} (I : DI D) {S : Nat → Bool} (hw : D.jn S D.w ≤ 14400) (hs : ∀ x, x < D.w → S x = true → D.go x = true) {j p : Nat} (hj : j < D.w) (hS : S j = true) (h : (D.ev j).testBit p = true) : ∃ t, t < D.jn S D.w ∧ D.sq S p t = true := by
  have g := hs j hj hS
  have j1 := Da.jn_pos I D.w (S := S) (Nat.le_refl _) (fun x hx q => hs x hx q)
  have dv := D.jn_dvd S hw D.w (Nat.le_refl _) j hj hS
  unfold Da.ev at h
  by_cases c : D.kd j = 3
  · rw [if_pos c] at h
    refine ⟨0, by omega, (D.sa_tb S ((0 : Nat) : Int) p D.w).mpr ⟨j, hj, hS, ?_⟩⟩
    unfold Da.vis
    rw [if_pos c]
    exact h
  · rw [if_neg c] at h
    obtain ⟨i, i1, i2⟩ := (D.os_tb j p (D.sz j)).mp h
    have hp := I.per1 hj g
    have pe := D.per_cm (j := j) c
    have ltp := I.lt_pos hj g c i1
    have cs : D.cm j (i + 1) = D.cm j i + D.lt j i := rfl
    have cmm := D.cm_mono j (show i + 1 ≤ D.sz j by omega)
    have ml := Nat.mod_lt (D.st j % D.per j + D.cm j i) (show 0 < D.per j by omega)
    have pl := Nat.le_of_dvd (by omega) dv
    have e := (ph_iff I hj g (c := D.cm j i) (by omega) ((D.st j % D.per j + D.cm j i) % D.per j)).mp (Nat.mod_mod _ _)
    refine ⟨(D.st j % D.per j + D.cm j i) % D.per j, by omega, (D.sa_tb S _ p D.w).mpr ⟨j, hj, hS, ?_⟩⟩
    have v := ((visit I hj g c i1 e).1 0 (by omega)).2
    rw [if_pos (by omega)] at v
    rw [show (((D.st j % D.per j + D.cm j i) % D.per j : Nat) : Int) + ((0 : Nat) : Int) = (((D.st j % D.per j + D.cm j i) % D.per j : Nat) : Int) by omega] at v
    rw [v]
    exact i2
def LK (sq : Nat → Bool) (J need : Nat) (nv : Bool) (r : Rc) : Prop := r.2.1 = zI (rF sq J) ∧ r.2.2.1 = nI (cnt (fun t => !sq t) J) ∧ r.2.2.2.1 = nI (rO sq J need) ∧ (nv = true ↔ rL sq J = -9) ∧ (nv = false → 0 ≤ rL sq J ∧ r.1 = zI (rL sq J))
theorem cnt_all {p : Nat → Bool} : ∀ n, (∀ i, i < n → p i = true) → cnt p n = n
  | 0, _ => rfl
  | n + 1, h => by
    unfold cnt
    rw [cnt_all n (fun i hi => h i (by omega)), if_pos (h n (by omega))]
theorem cnt_none {p : Nat → Bool} : ∀ n, (∀ i, i < n → p i = false) → cnt p n = 0
  | 0, _ => rfl
  | n + 1, h => by
    unfold cnt
    rw [cnt_none n (fun i hi => h i (by omega)), if_neg (by rw [h n (by omega)]; decide)]
theorem LK_never {sq : Nat → Bool} {J need : Nat} (h : ∀ t, t < J → sq t = false) : LK sq J need true (0, -9, nI J, nI J, -1, -1) := by
  have f := fsN_no h
  refine ⟨?_, ?_, ?_, ?_, fun q => by cases q⟩
  · unfold rF; rw [if_pos f]; rfl
  · rw [cnt_all J (fun i hi => by show (!sq i) = true; rw [h i hi]; rfl)]
  · unfold rO; rw [if_pos f]
  · unfold rL; rw [if_pos f]; exact ⟨fun _ => rfl, fun _ => rfl⟩
theorem LK_always {sq : Nat → Bool} {J need : Nat} (hJ : 1 ≤ J) (hn : 1 ≤ need) (h : ∀ t, sq t = true) : LK sq J need false (0, -9, 0, 0, -1, -1) := by
  have f : fsN sq J = 0 := fsN_is (by omega) (h 0) (fun t q => by omega)
  have s : ∀ nd, 1 ≤ nd → scn sq J nd 0 J = (0, 0, -9, 0, 0) := fun nd hnd => by
    have := scn_stay (sq := sq) (J := J) (need := nd) (f := 0) (n := 0) hnd rfl J (fun e he => h _)
    rw [Nat.zero_add] at this
    exact this
  refine ⟨?_, ?_, ?_, ?_, fun _ => ?_⟩
  · unfold rF; rw [f, if_neg (by omega), s 1 (by omega)]; rfl
  · rw [cnt_none J (fun i hi => by show (!sq i) = false; rw [h i]; rfl)]; rfl
  · unfold rO; rw [f, if_neg (by omega), s need hn]; rfl
  · unfold rL; rw [f, if_neg (by omega), s 1 (by omega)]
    exact ⟨fun q => (by cases q), fun q => (by revert q; decide)⟩
  · unfold rL; rw [f, if_neg (by omega), s 1 (by omega)]
    exact ⟨by decide, rfl⟩
theorem LK_swept {sq : Nat → Bool} {J need : Nat} (hJ : 1 ≤ J) (per : ∀ t, sq (t + J) = sq t) (hf : fsN sq J < J) (x : Int32 × Int32) : LK sq J need false (nI (scn sq J need (fsN sq J) J).2.1, zI (scn sq J need (fsN sq J) J).2.2.1, nI (scn sq J need (fsN sq J) J).2.2.2.2, nI (scn sq J need (fsN sq J) J).2.2.2.1, x) := by
  obtain ⟨_, q2, q3, _⟩ := scn_need sq J 1 need (fsN sq J) J
  have hs := (fsN_spec sq J).2.1 hf
  refine ⟨?_, ?_, ?_, ?_, fun _ => ?_⟩
  · unfold rF; rw [if_neg (by omega), q3]
  · rw [← (scn_U (need := need) hJ per hs).1]
  · unfold rO; rw [if_neg (by omega)]
  · unfold rL; rw [if_neg (by omega)]
    exact ⟨fun q => (by cases q), fun q => (by omega)⟩
  · unfold rL; rw [if_neg (by omega), q2]
    exact ⟨by omega, rfl⟩
theorem mxI_1 {x : Nat} (h : 1 ≤ x) (h2 : x < 2 ^ 31) : mxI 1 (nI x) = nI x := by
  have := mxI_nn (a := 1) (b := x) (by decide) h2
  rw [show (if x ≤ 1 then 1 else x) = x by split <;> omega] at this
  exact this
theorem Wa_look_eq (N : Nat) (hN : 61000 ≤ N) {D : Da} (I : DI D) {B A need : Nat} (hB : B < 2 ^ 31) (hs : ∀ x, x < D.w → B.testBit x = true → D.go x = true) (hA : A < 65536) (hn : 1 ≤ need) (hn2 : need ≤ 14400) (hJ2 : D.jn (fun x => B.testBit x) D.w ≤ 14400) (μ : Mm) (X : DX D μ) (C : CrewOk D μ) : ∃ μ', f_Wa_look N (nI B) (nI A) (nI need) μ = some μ' ∧ XFr μ μ' ∧ μ'.1 61 0 = nI (D.jn (fun x => B.testBit x) D.w) ∧ μ'.1 61 12 = nI A ∧ μ'.1 61 14 = nI (anN A (D.ea (fun x => B.testBit x) D.w)) ∧ ∀ p, p < 16 → A.testBit p = true → LK (D.sq (fun x => B.testBit x) p) (D.jn (fun x => B.testBit x) D.w) need ((anN A (D.ea (fun x => B.testBit x) D.w)).testBit p) (rd μ' p) := by
  have w8 := I.w8
  have hJ := Da.jn_pos I D.w (S := fun x => B.testBit x) (Nat.le_refl _) (fun x hx q => hs x hx q)
  have eal := D.ea_lt I.g (fun x => B.testBit x) D.w
  have gal := D.ga_lt I.g (fun x => B.testBit x) D.w
  unfold f_Wa_look
  rw [Cr_jointOf_eq N (by omega) I hB hs μ X C, bnS, if_neg (by omega), Jmax', bnS, mxI_1 hJ (by omega)]
  simp only []
  generalize hJe : D.jn (fun x => B.testBit x) D.w = J at *
  generalize hV : anN A (D.ea (fun x => B.testBit x) D.w) = V
  generalize hW : anN (anN A V) (D.ga (fun x => B.testBit x) D.w) = W
  have Vl : V < 65536 := by rw [← hV]; exact anN_lt (n := 16) hA
  have A1l : anN A V < 65536 := anN_lt (n := 16) hA
  have Wl : W < 65536 := by rw [← hW]; exact anN_lt (n := 16) A1l
  have Vb : ∀ p, V.testBit p = (A.testBit p && !(D.ea (fun x => B.testBit x) D.w).testBit p) := fun p => by rw [← hV, anN_tb]
  have Wb : ∀ p, W.testBit p = ((A.testBit p && !V.testBit p) && !(D.ga (fun x => B.testBit x) D.w).testBit p) := fun p => by rw [← hW, anN_tb, anN_tb]
  have x7 : XFr μ (sI (sI (sI μ 61 0 (nI J)) 61 15 (nI need)) 61 12 (nI A)) := ((XFr.fld (by omega) μ _).trans (XFr.fld (by omega) _ _)).trans (XFr.fld (by omega) _ _)
  have a0 : (sI (sI (sI μ 61 0 (nI J)) 61 15 (nI need)) 61 12 (nI A)).1 61 0 = nI J := by rw [sI_at, upd_ne _ _ (by decide), sI_at, upd_ne _ _ (by decide), sI_at, upd_eq]
  have a15 : (sI (sI (sI μ 61 0 (nI J)) 61 15 (nI need)) 61 12 (nI A)).1 61 15 = nI need := by rw [sI_at, upd_ne _ _ (by decide), sI_at, upd_eq]
  have a12 : (sI (sI (sI μ 61 0 (nI J)) 61 15 (nI need)) 61 12 (nI A)).1 61 12 = nI A := by rw [sI_at, upd_eq]
  generalize sI (sI (sI μ 61 0 (nI J)) 61 15 (nI need)) 61 12 (nI A) = μ7 at x7 a0 a15 a12
  rw [Cr_everSeen_eq N (by omega) I hB hs μ7 (x7.dx w8 X) (x7.crew w8 C), bnS, notN (by omega) (by omega), hV]
  have x10 := x7.trans (XFr.fld (c := 61) (f := 14) (by omega) μ7 (nI V))
  have b14 : (sI μ7 61 14 (nI V)).1 61 14 = nI V := by rw [sI_at, upd_eq]
  have bo : ∀ f, f ≠ 14 → (sI μ7 61 14 (nI V)).1 61 f = μ7.1 61 f := fun f h => by rw [sI_at, upd_ne _ _ h]
  rw [Wa_alwaysSeen_eq N (by omega) I hB hs _ (x10.dx w8 X) (x10.crew w8 C), bnS, b14, notN (by omega) (by omega), notN (by omega) (by omega), hW]
  have x13 := x10.trans (XFr.fld (c := 61) (f := 13) (by omega) (sI μ7 61 14 (nI V)) (nI W))
  have c13 : (sI (sI μ7 61 14 (nI V)) 61 13 (nI W)).1 61 13 = nI W := by rw [sI_at, upd_eq]
  have c14 : (sI (sI μ7 61 14 (nI V)) 61 13 (nI W)).1 61 14 = nI V := by rw [sI_at, upd_ne _ _ (by decide), b14]
  have c0 : (sI (sI μ7 61 14 (nI V)) 61 13 (nI W)).1 61 0 = nI J := by rw [sI_at, upd_ne _ _ (by decide), bo 0 (by decide), a0]
  have c15 : (sI (sI μ7 61 14 (nI V)) 61 13 (nI W)).1 61 15 = nI need := by rw [sI_at, upd_ne _ _ (by decide), bo 15 (by decide), a15]
  have c12 : (sI (sI μ7 61 14 (nI V)) 61 13 (nI W)).1 61 12 = nI A := by rw [sI_at, upd_ne _ _ (by decide), bo 12 (by decide), a12]
  generalize sI (sI μ7 61 14 (nI V)) 61 13 (nI W) = μ9 at x13 c13 c14 c0 c15 c12
  obtain ⟨μc, d1, d2, d3⟩ := Wa_clear_loop N Vl N 0 μ9 c14 (by omega) (by omega)
  rw [show f_Wa_clear N μ9 = some μc from d1, bvS]
  have q0 := QFr.f11 μc 0
  have xs : XFr μ (sI μc 61 11 0) := (x13.trans d2.xfr).trans q0.xfr
  have u61 : ∀ f, f ≠ 11 → (sI μc 61 11 0).1 61 f = μ9.1 61 f := fun f h => by rw [q0.2.1 f h, d2.1 61 (by omega)]
  have rz : ∀ p, p < 16 → rd (sI μc 61 11 0) p = (0, -9, if V.testBit p = true then nI J else 0, if V.testBit p = true then nI J else 0, -1, -1) := fun p hp => by
    rw [rd_of (μ := μc) (fun c h1 h2 => sI_ne _ _ _ (by omega)) p, d3 p hp, if_pos (by omega), c0]
  have e11 : (sI μc 61 11 0).1 61 11 = nI 0 := by rw [sI_at, upd_eq]; rfl
  have fE : f_Wa_enlist N (nI B) μc = f_Wa_enlist_L7 N N (nI B) (nI 0) (sI μc 61 11 0) := rfl
  rw [fE]
  generalize sI μc 61 11 0 = μ1 at xs u61 rz e11 q0
  have X1 := xs.dx w8 X
  have C1 := xs.crew w8 C
  obtain ⟨μ2, r, rid, leg, nt, g1, g2, g3, g4⟩ := Wa_enlist_loop N (by omega) I hB hs Wl hJ hn μ1 X1 C1 (by rw [u61 13 (by decide)]; exact c13) N 0 0 (fun _ => 0) (fun _ => 0) (fun _ => 0) μ1 (by omega) (by omega) (by omega) ⟨⟨e11, fun k hk => by omega⟩, fun k hk => by omega, fun p _ _ k hk => by omega, fun p hp hw => by
      have v0 : V.testBit p = false := by
        rw [Wb p, Bool.and_eq_true, Bool.and_eq_true] at hw
        simpa using hw.1.2
      rw [rz p hp, v0]
      exact ⟨Or.inl ⟨rfl, fun ⟨k, hk, _⟩ => by omega⟩, rfl⟩, fun p _ _ => rfl, QFr.refl μ1⟩ (fun x hx => by omega)
  rw [g1, bvS]
  obtain ⟨i1, i2, i3, i4, i5, i6⟩ := g3
  have hWg : ∀ p, W.testBit p = true → (D.ga (fun x => B.testBit x) D.w).testBit p = false := fun p hw => by
    rw [Wb p, Bool.and_eq_true] at hw
    simpa using hw.2
  obtain ⟨μ3, lim, leg', nt', s1, s2, s3⟩ := Wa_sweep_loop N (by omega) I hs Wl hJ hJ2 hJe.symm hn hn2 g2 hWg g4 μ1 X1 C1 (by rw [u61 13 (by decide)]; exact c13) (by rw [u61 0 (by decide)]; exact c0) (by rw [u61 15 (by decide)]; exact c15) N 0 0 leg nt μ2 (by omega) (by omega) ⟨i1, i2, i3, fun p hp hw => (i4 p hp hw).1, i5, i6, fun k _ => by omega⟩
  rw [show f_Wa_sweep N μ2 = some μ3 from s1, bvS]
  obtain ⟨t1, t2, t3, t4, t5, t6, t7⟩ := s2
  obtain ⟨μ4, z1, z2, z3⟩ := Wa_close_loop N N 0 μ3 (by omega) (by omega)
  rw [show f_Wa_closeRound N μ3 = some μ4 from z1, bvS]
  have k61 : ∀ f, f ≠ 11 → μ3.1 61 f = μ9.1 61 f := fun f h => by rw [t6.2.1 f h, u61 f h]
  have l61 : ∀ f, f ≠ 11 → μ4.1 61 f = μ9.1 61 f := fun f h => by rw [z2.1 61 (by omega), k61 f h]
  refine ⟨μ4, rfl, (xs.trans t6.xfr).trans z2.xfr, by rw [l61 0 (by decide)]; exact c0, by rw [l61 12 (by decide)]; exact c12, by rw [l61 14 (by decide)]; exact c14, fun p hp ha => ?_⟩
  rw [z3 p hp, if_pos (by omega), k61 0 (by decide), k61 15 (by decide), c0, c15]
  have sr : ∀ t, D.sq (fun x => B.testBit x) p (t + J) = D.sq (fun x => B.testBit x) p t := fun t => by
    have := sq_round (D := D) (S := fun x => B.testBit x) (by omega) p t
    rw [hJe] at this
    exact this
  cases hw : W.testBit p with
  | false =>
    rw [t5 p hp hw, rz p hp]
    have cr : ∀ y, crI (nI J) (nI need) (0, -9, y, y, -1, -1) = (0, -9, y, y, -1, -1) := fun y => by unfold crI; rw [if_pos rfl]
    rw [cr]
    cases hv : V.testBit p with
    | true =>
      rw [if_pos rfl]
      refine LK_never (fun t ht => ?_)
      cases hq : D.sq (fun x => B.testBit x) p t with
      | false => rfl
      | true =>
        obtain ⟨j, j1, j2, j3⟩ := (D.sa_tb (fun x => B.testBit x) (t : Int) p D.w).mp hq
        have : (D.ea (fun x => B.testBit x) D.w).testBit p = true := (D.ea_tb _ p D.w).mpr ⟨j, j1, j2, vis_ev I j1 (hs j j1 j2) j3⟩
        rw [Vb p, this, Bool.not_true, Bool.and_false] at hv
        cases hv
    | false =>
      rw [if_neg (by decide)]
      have hg : (D.ga (fun x => B.testBit x) D.w).testBit p = true := by
        rw [Wb p, ha, hv] at hw
        simpa using hw
      obtain ⟨j, j1, j2, j3⟩ := (D.ga_tb _ p D.w).mp hg
      refine LK_always hJ hn (fun t => (D.sa_tb (fun x => B.testBit x) (t : Int) p D.w).mpr ⟨j, j1, j2.1, ?_⟩)
      unfold Da.ev at j3
      rw [if_pos j2.2] at j3
      unfold Da.vis
      rw [if_pos j2.2]
      exact j3
  | true =>
    have hv : V.testBit p = false := by
      rw [Wb p, Bool.and_eq_true, Bool.and_eq_true] at hw
      simpa using hw.1.2
    have hea : (D.ea (fun x => B.testBit x) D.w).testBit p = true := by
      rw [Vb p, ha] at hv
      simpa using hv
    obtain ⟨j, j1, j2, j3⟩ := (D.ea_tb _ p D.w).mp hea
    have ex := ev_sees I (S := fun x => B.testBit x) (by omega) hs j1 j2 j3
    rw [hJe] at ex
    have uns : ∀ u, u < J → D.sq (fun x => B.testBit x) p u = true → ∃ c : Nat, c ≤ 20000 ∧ μ3.1 66 p = nI c ∧ u < c := fun u hu hq => by
      obtain ⟨k', y1, y2⟩ := riders I hs hWg g4 hw hq
      exact t3 p hp hw k' y1 u (by have := s3 k' y1; omega) y2
    obtain ⟨x, f1, f2⟩ := PSt_end hJ hJ2 hn hn2 sr (t4 p hp hw) ex (fun e u hu => by
      cases hq : D.sq (fun x => B.testBit x) p u with
      | false => rfl
      | true =>
        obtain ⟨c, y1, y2, y3⟩ := uns u hu hq
        have e' : μ3.1 66 p = -1 := e
        rw [y2] at e'
        exact absurd e' (nI_n1 (by omega))) (fun c hc e u u1 u2 => by
      cases hq : D.sq (fun x => B.testBit x) p u with
      | false => rfl
      | true =>
        obtain ⟨c2, y1, y2, y3⟩ := uns u u2 hq
        have e' : μ3.1 66 p = nI c := e
        rw [y2] at e'
        have := (nI_eq (by omega) (by omega)).mp e'
        omega) (fun ho c hc e => by
      obtain ⟨k, k1, k2, k4⟩ := ho
      obtain ⟨m1, m2, m3, _⟩ := t2 k k1
      have g := hs (rid k) m1 m2
      obtain ⟨h1, h2, h3⟩ := I.hl_spec m1 g m3 0
      have dv : (D.per (rid k) : Int) ∣ (J : Int) - 0 := by
        have dd := Int.ofNat_dvd.mpr (D.jn_dvd (fun x => B.testBit x) (w := D.w) (by omega) D.w (Nat.le_refl _) (rid k) m1 m2)
        rw [hJe] at dd
        rw [Int.sub_zero]
        exact dd
      have pj : D.ph (rid k) (J : Int) = D.ph (rid k) 0 := D.ph_round dv
      have pa := I.ph_add m1 g ((J - 1 : Nat) : Int) 1
      rw [show ((J - 1 : Nat) : Int) + ((1 : Nat) : Int) = (J : Int) by omega, pj] at pa
      have pl := I.ph_lt m1 g ((J - 1 : Nat) : Int)
      have pe := D.per_cm (j := rid k) m3
      have p1 : D.ph (rid k) ((J - 1 : Nat) : Int) = D.ph (rid k) 0 - 1 := by
        by_cases y : D.ph (rid k) ((J - 1 : Nat) : Int) + 1 < D.per (rid k)
        · rw [Nat.mod_eq_of_lt y] at pa; omega
        · have e2 : D.ph (rid k) ((J - 1 : Nat) : Int) + 1 = D.per (rid k) := by omega
          rw [e2, Nat.mod_self] at pa
          omega
      have r0 : D.ph (rid k) 0 ≤ D.cm (rid k) (D.hl (rid k) 0) + D.pr (rid k) (D.hl (rid k) 0) ∧ (D.sg (rid k) (D.hl (rid k) 0)).testBit p = true := by
        rw [D.vis_vp m3] at k2
        unfold Da.vp at k2
        by_cases y : D.ph (rid k) 0 ≤ D.cm (rid k) (D.lf (rid k) (D.ph (rid k) 0)) + D.pr (rid k) (D.lf (rid k) (D.ph (rid k) 0))
        · rw [if_pos y] at k2
          exact ⟨y, k2⟩
        · rw [if_neg y, Nat.zero_testBit] at k2
          cases k2
      have cs : D.cm (rid k) (D.hl (rid k) 0 + 1) = D.cm (rid k) (D.hl (rid k) 0) + D.lt (rid k) (D.hl (rid k) 0) := rfl
      have vv : (D.vis (rid k) ((J - 1 : Nat) : Int)).testBit p = true := by
        rw [D.vis_vp m3, p1]
        have := (D.vp_in I m1 g m3 h1 (d := D.ph (rid k) 0 - 1 - D.cm (rid k) (D.hl (rid k) 0)) (by omega)).2
        rw [show D.cm (rid k) (D.hl (rid k) 0) + (D.ph (rid k) 0 - 1 - D.cm (rid k) (D.hl (rid k) 0)) = D.ph (rid k) 0 - 1 by omega, if_pos (by omega)] at this
        rw [this]
        exact r0.2
      obtain ⟨c2, y1, y2, y3⟩ := t3 p hp hw k k1 (J - 1) (by have := s3 k k1; omega) vv
      have e' : μ3.1 66 p = nI c := e
      rw [y2] at e'
      have := (nI_eq (by omega) (by omega)).mp e'
      omega)
    rw [f2, hv]
    exact LK_swept hJ sr f1 x
