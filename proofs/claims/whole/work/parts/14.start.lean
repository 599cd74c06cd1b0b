/-! THE LAW (by program): its start, its loop, out of what the calls do -/
def μX0I : Nat → Nat → Int32 := fun c => match c with
  | 5 => upd (upd (upd (upd (upd (upd (upd (upd (fun _ => 0) 0 (-1)) 1 (-1)) 2 (-1)) 3 (-1)) 4 (-1)) 5 (-1)) 6 (-1)) 7 (-1)
  | 6 => fun k => match k with | 0 => 2 | 1 => 1 | 9 => 1 | _ => 0
  | 8 => upd (fun _ => 0) 0 (1)
  | 11 => fun k => match k with | 4 => 1 | _ => 0
  | 13 => fun k => match k with | 1 => 1 | 12 => 1 | _ => 0
  | 19 => fun k => match k with | 1 => 1 | 12 => 1 | _ => 0
  | 25 => fun k => match k with | 1 => 1 | 12 => 1 | _ => 0
  | 31 => fun k => match k with | 1 => 1 | 12 => 1 | _ => 0
  | 37 => fun k => match k with | 1 => 1 | 12 => 1 | _ => 0
  | 43 => fun k => match k with | 1 => 1 | 12 => 1 | _ => 0
  | 49 => fun k => match k with | 1 => 1 | 12 => 1 | _ => 0
  | 55 => fun k => match k with | 1 => 1 | 12 => 1 | _ => 0
  | 61 => fun k => match k with | 0 => 1 | 15 => 1 | _ => 0
  | 75 => fun k => match k with | 6 => -1 | _ => 0
  | 80 => upd (upd (upd (upd (upd (upd (upd (upd (fun _ => 0) 0 (-9)) 1 (-9)) 2 (-9)) 3 (-9)) 4 (-9)) 5 (-9)) 6 (-9)) 7 (-9)
  | 81 => upd (upd (upd (upd (upd (upd (upd (upd (fun _ => 0) 0 (-9)) 1 (-9)) 2 (-9)) 3 (-9)) 4 (-9)) 5 (-9)) 6 (-9)) 7 (-9)
  | _ => fun _ => 0
def μX0L : Nat → Nat → Int64 := fun c => match c with
  | 1 => fun k => match k with | 4 => 1 | _ => 0
  | _ => fun _ => 0
def μX0 : Mm := (μX0I, μX0L)
def μM0I : Nat → Nat → Int32 := fun c => match c with
  | 0 => fun k => match k with | 8 => 2 | 9 => 1 | _ => 0
  | 2 => upd (upd (upd (upd (upd (upd (upd (upd (fun _ => 0) 0 (-1)) 1 (-1)) 2 (-1)) 3 (-1)) 4 (-1)) 5 (-1)) 6 (-1)) 7 (-1)
  | 7 => upd (fun _ => 0) 0 (1)
  | 29 => upd (upd (upd (upd (upd (upd (upd (upd (fun _ => 0) 0 (-9)) 1 (-9)) 2 (-9)) 3 (-9)) 4 (-9)) 5 (-9)) 6 (-9)) 7 (-9)
  | 30 => upd (upd (upd (upd (upd (upd (upd (upd (fun _ => 0) 0 (-9)) 1 (-9)) 2 (-9)) 3 (-9)) 4 (-9)) 5 (-9)) 6 (-9)) 7 (-9)
  | _ => fun _ => 0
def μM0L : Nat → Nat → Int64 := fun c => match c with
  | 0 => fun k => match k with | 4 => 1 | _ => 0
  | _ => fun _ => 0
def μM0 : Mm := (μM0I, μM0L)
def adr (h0 : Nat) (u : Nat → Nat) : Nat → Nat := fun i => match i with | 0 => h0 | k + 1 => u k
abbrev pX (dA : Nat → ClassId) (h0 : Nat) (u : Nat → Nat) : va_W := [(h0, .inr (10, [.ref (u 0), .ref (u 2), .ref (u 5), .ref (u 10), .ref (u 60), .ref (u 70), .ref (u 74), .ref (u 78)])), (u 0, .inr (6, [.ref (u 1), .int (0), .int (0), .long (0), .long (1)])), (u 1, .inl (dA 0, 6, .inl (fun _ => 0))), (u 2, .inr (4, [.ref (u 3), .ref (u 4)])), (u 3, .inl (dA 1, 320, .inl (fun _ => 0))), (u 4, .inl (dA 0, 8, .inl (upd (upd (upd (upd (upd (upd (upd (upd (fun _ => 0) 0 (-1)) 1 (-1)) 2 (-1)) 3 (-1)) 4 (-1)) 5 (-1)) 6 (-1)) 7 (-1)))), (u 5, .inr (1, [.int (2), .int (1), .int (0), .int (0), .int (0), .ref (u 6), .ref (u 7), .ref (u 8), .ref (u 9), .int (1)])), (u 6, .inl (dA 0, 256, .inl (fun _ => 0))), (u 7, .inl (dA 0, 16, .inl (upd (fun _ => 0) 0 (1)))), (u 8, .inl (dA 2, 16, .inl (fun _ => 0))), (u 9, .inl (dA 0, 256, .inl (fun _ => 0))), (u 10, .inr (0, [.ref (u 5), .int (0), .int (0), .ref (u 11), .int (1), .int (0)])), (u 11, .inl (dA 4, 8, .inr (.inr (.inr (.inr (va_up (va_up (va_up (va_up (va_up (va_up (va_up (va_up (fun _ => none) 0 (some (u 12))) 1 (some (u 18))) 2 (some (u 24))) 3 (some (u 30))) 4 (some (u 36))) 5 (some (u 42))) 6 (some (u 48))) 7 (some (u 54)))))))), (u 12, .inr (8, [.int (0), .int (1), .int (0), .int (0), .int (0), .int (0), .int (0), .int (0), .int (0), .ref (u 13), .ref (u 14), .int (0), .int (1), .int (0), .ref (u 15), .ref (u 16), .ref (u 17)])), (u 13, .inl (dA 0, 24, .inl (fun _ => 0))), (u 14, .inl (dA 0, 24, .inl (fun _ => 0))), (u 15, .inl (dA 0, 25, .inl (fun _ => 0))), (u 16, .inl (dA 0, 24, .inl (fun _ => 0))), (u 17, .inl (dA 0, 24, .inl (fun _ => 0))), (u 18, .inr (8, [.int (0), .int (1), .int (0), .int (0), .int (0), .int (0), .int (0), .int (0), .int (0), .ref (u 19), .ref (u 20), .int (0), .int (1), .int (0), .ref (u 21), .ref (u 22), .ref (u 23)])), (u 19, .inl (dA 0, 24, .inl (fun _ => 0))), (u 20, .inl (dA 0, 24, .inl (fun _ => 0))), (u 21, .inl (dA 0, 25, .inl (fun _ => 0))), (u 22, .inl (dA 0, 24, .inl (fun _ => 0))), (u 23, .inl (dA 0, 24, .inl (fun _ => 0))), (u 24, .inr (8, [.int (0), .int (1), .int (0), .int (0), .int (0), .int (0), .int (0), .int (0), .int (0), .ref (u 25), .ref (u 26), .int (0), .int (1), .int (0), .ref (u 27), .ref (u 28), .ref (u 29)])), (u 25, .inl (dA 0, 24, .inl (fun _ => 0))), (u 26, .inl (dA 0, 24, .inl (fun _ => 0))), (u 27, .inl (dA 0, 25, .inl (fun _ => 0))), (u 28, .inl (dA 0, 24, .inl (fun _ => 0))), (u 29, .inl (dA 0, 24, .inl (fun _ => 0))), (u 30, .inr (8, [.int (0), .int (1), .int (0), .int (0), .int (0), .int (0), .int (0), .int (0), .int (0), .ref (u 31), .ref (u 32), .int (0), .int (1), .int (0), .ref (u 33), .ref (u 34), .ref (u 35)])), (u 31, .inl (dA 0, 24, .inl (fun _ => 0))), (u 32, .inl (dA 0, 24, .inl (fun _ => 0))), (u 33, .inl (dA 0, 25, .inl (fun _ => 0))), (u 34, .inl (dA 0, 24, .inl (fun _ => 0))), (u 35, .inl (dA 0, 24, .inl (fun _ => 0))), (u 36, .inr (8, [.int (0), .int (1), .int (0), .int (0), .int (0), .int (0), .int (0), .int (0), .int (0), .ref (u 37), .ref (u 38), .int (0), .int (1), .int (0), .ref (u 39), .ref (u 40), .ref (u 41)])), (u 37, .inl (dA 0, 24, .inl (fun _ => 0))), (u 38, .inl (dA 0, 24, .inl (fun _ => 0))), (u 39, .inl (dA 0, 25, .inl (fun _ => 0))), (u 40, .inl (dA 0, 24, .inl (fun _ => 0))), (u 41, .inl (dA 0, 24, .inl (fun _ => 0))), (u 42, .inr (8, [.int (0), .int (1), .int (0), .int (0), .int (0), .int (0), .int (0), .int (0), .int (0), .ref (u 43), .ref (u 44), .int (0), .int (1), .int (0), .ref (u 45), .ref (u 46), .ref (u 47)])), (u 43, .inl (dA 0, 24, .inl (fun _ => 0))), (u 44, .inl (dA 0, 24, .inl (fun _ => 0))), (u 45, .inl (dA 0, 25, .inl (fun _ => 0))), (u 46, .inl (dA 0, 24, .inl (fun _ => 0))), (u 47, .inl (dA 0, 24, .inl (fun _ => 0))), (u 48, .inr (8, [.int (0), .int (1), .int (0), .int (0), .int (0), .int (0), .int (0), .int (0), .int (0), .ref (u 49), .ref (u 50), .int (0), .int (1), .int (0), .ref (u 51), .ref (u 52), .ref (u 53)])), (u 49, .inl (dA 0, 24, .inl (fun _ => 0))), (u 50, .inl (dA 0, 24, .inl (fun _ => 0))), (u 51, .inl (dA 0, 25, .inl (fun _ => 0))), (u 52, .inl (dA 0, 24, .inl (fun _ => 0))), (u 53, .inl (dA 0, 24, .inl (fun _ => 0))), (u 54, .inr (8, [.int (0), .int (1), .int (0), .int (0), .int (0), .int (0), .int (0), .int (0), .int (0), .ref (u 55), .ref (u 56), .int (0), .int (1), .int (0), .ref (u 57), .ref (u 58), .ref (u 59)])), (u 55, .inl (dA 0, 24, .inl (fun _ => 0))), (u 56, .inl (dA 0, 24, .inl (fun _ => 0))), (u 57, .inl (dA 0, 25, .inl (fun _ => 0))), (u 58, .inl (dA 0, 24, .inl (fun _ => 0))), (u 59, .inl (dA 0, 24, .inl (fun _ => 0))), (u 60, .inr (9, [.int (1), .ref (u 10), .ref (u 61), .ref (u 62), .ref (u 63), .ref (u 64), .ref (u 65), .ref (u 66), .ref (u 67), .ref (u 68), .ref (u 69), .int (0), .int (0), .int (0), .int (0), .int (1)])), (u 61, .inl (dA 0, 16, .inl (fun _ => 0))), (u 62, .inl (dA 0, 16, .inl (fun _ => 0))), (u 63, .inl (dA 0, 16, .inl (fun _ => 0))), (u 64, .inl (dA 0, 16, .inl (fun _ => 0))), (u 65, .inl (dA 0, 16, .inl (fun _ => 0))), (u 66, .inl (dA 0, 16, .inl (fun _ => 0))), (u 67, .inl (dA 0, 8, .inl (fun _ => 0))), (u 68, .inl (dA 0, 8, .inl (fun _ => 0))), (u 69, .inl (dA 0, 8, .inl (fun _ => 0))), (u 70, .inr (2, [.ref (u 10), .ref (u 71), .ref (u 72), .ref (u 73)])), (u 71, .inr (5, [.ref (u 12), .int (0), .long (0), .int (0), .int (0), .int (0), .long (0), .long (0), .long (0)])), (u 72, .inr (5, [.ref (u 12), .int (0), .long (0), .int (0), .int (0), .int (0), .long (0), .long (0), .long (0)])), (u 73, .inl (dA 3, 8, .inr (.inl (fun _ => 0)))), (u 74, .inr (7, [.int (0), .ref (u 5), .ref (u 75), .ref (u 76), .ref (u 77), .int (0), .int (-1)])), (u 75, .inl (dA 0, 10, .inl (fun _ => 0))), (u 76, .inl (dA 0, 10, .inl (fun _ => 0))), (u 77, .inl (dA 0, 4608, .inl (fun _ => 0))), (u 78, .inr (3, [.ref (u 79), .ref (u 80), .ref (u 5), .ref (u 10), .ref (u 81), .ref (u 82), .int (0)])), (u 79, .inl (dA 0, 8, .inl (upd (upd (upd (upd (upd (upd (upd (upd (fun _ => 0) 0 (-9)) 1 (-9)) 2 (-9)) 3 (-9)) 4 (-9)) 5 (-9)) 6 (-9)) 7 (-9)))), (u 80, .inl (dA 0, 8, .inl (upd (upd (upd (upd (upd (upd (upd (upd (fun _ => 0) 0 (-9)) 1 (-9)) 2 (-9)) 3 (-9)) 4 (-9)) 5 (-9)) 6 (-9)) 7 (-9)))), (u 81, .inl (dA 0, 5, .inl (fun _ => 0))), (u 82, .inl (dA 0, 544, .inl (fun _ => 0)))]
abbrev pM (dA : Nat → ClassId) (h0 : Nat) (u : Nat → Nat) : va_W := [(h0, .inr (11, [.int 0, .ref (u 0), .int 0, .long 0, .long (1), .ref (u 1), .ref (u 2), .ref (u 3), .int (2), .int (1), .ref (u 4), .ref (u 5), .ref (u 6), .ref (u 7), .ref (u 8), .int 0, .ref (u 9), .ref (u 10), .ref (u 11), .ref (u 12), .ref (u 13), .ref (u 14), .ref (u 15), .ref (u 16), .ref (u 17), .ref (u 18), .ref (u 19), .int 0, .int 0, .int 0, .int 0, .int 0, .ref (u 20), .int 0, .int 0, .int 0, .int 0, .int 0, .int 0, .int 0, .int 0, .int 0, .int 0, .int 0, .ref (u 21), .ref (u 22), .int 0, .ref (u 23), .ref (u 24), .int 0, .ref (u 25), .ref (u 26), .ref (u 27), .int 0, .ref (u 28), .ref (u 29)])), (u 0, .inl (dA 0, 6, .inl (fun _ => 0))), (u 1, .inl (dA 0, 8, .inl (upd (upd (upd (upd (upd (upd (upd (upd (fun _ => 0) 0 (-1)) 1 (-1)) 2 (-1)) 3 (-1)) 4 (-1)) 5 (-1)) 6 (-1)) 7 (-1)))), (u 2, .inl (dA 1, 320, .inl (fun _ => 0))), (u 3, .inl (dA 1, 40, .inl (fun _ => 0))), (u 4, .inl (dA 0, 256, .inl (fun _ => 0))), (u 5, .inl (dA 2, 256, .inl (fun _ => 0))), (u 6, .inl (dA 0, 16, .inl (upd (fun _ => 0) 0 (1)))), (u 7, .inl (dA 2, 16, .inl (fun _ => 0))), (u 8, .inl (dA 0, 256, .inl (fun _ => 0))), (u 9, .inl (dA 0, 8, .inl (fun _ => 0))), (u 10, .inl (dA 0, 8, .inl (fun _ => 0))), (u 11, .inl (dA 0, 8, .inl (fun _ => 0))), (u 12, .inl (dA 0, 8, .inl (fun _ => 0))), (u 13, .inl (dA 0, 8, .inl (fun _ => 0))), (u 14, .inl (dA 2, 8, .inl (fun _ => 0))), (u 15, .inl (dA 2, 8, .inl (fun _ => 0))), (u 16, .inl (dA 0, 8, .inl (fun _ => 0))), (u 17, .inl (dA 0, 192, .inl (fun _ => 0))), (u 18, .inl (dA 0, 192, .inl (fun _ => 0))), (u 19, .inl (dA 0, 8, .inl (fun _ => 0))), (u 20, .inl (dA 0, 14400, .inl (fun _ => 0))), (u 21, .inl (dA 3, 8, .inr (.inl (fun _ => 0)))), (u 22, .inl (dA 2, 8, .inl (fun _ => 0))), (u 23, .inl (dA 0, 10, .inl (fun _ => 0))), (u 24, .inl (dA 0, 10240, .inl (fun _ => 0))), (u 25, .inl (dA 0, 5, .inl (fun _ => 0))), (u 26, .inl (dA 0, 16, .inl (fun _ => 0))), (u 27, .inl (dA 0, 16, .inl (fun _ => 0))), (u 28, .inl (dA 0, 8, .inl (upd (upd (upd (upd (upd (upd (upd (upd (fun _ => 0) 0 (-9)) 1 (-9)) 2 (-9)) 3 (-9)) 4 (-9)) 5 (-9)) 6 (-9)) 7 (-9)))), (u 29, .inl (dA 0, 8, .inl (upd (upd (upd (upd (upd (upd (upd (upd (fun _ => 0) 0 (-9)) 1 (-9)) 2 (-9)) 3 (-9)) 4 (-9)) 5 (-9)) 6 (-9)) 7 (-9))))]
theorem arrV_ext {cI : ClassId} {n : Nat} {f g : Nat → Value} (h : ∀ j, j < n → f j = g j) : arrV cI n f = arrV cI n g := by
  unfold arrV
  congr 1
  congr 1
  funext j
  exact h j.val j.isLt
theorem rep_P {D : va_G} {ws : va_W} {H : Heap} {k a n : Nat} {cA : ClassId} {f g : Nat → Option Nat} (hP : va_P D CLS ws H) (hk : ws[k]? = some (a, .inl (cA, n, .inr (.inr (.inr (.inr f)))))) (h : ∀ j, j < n → f j = g j) : va_P D CLS (ws.set k (a, .inl (cA, n, .inr (.inr (.inr (.inr g)))))) H := by
  intro j q hj
  have hl := (List.getElem?_eq_some_iff.mp hk).1
  by_cases e : k = j
  · subst e
    rw [List.getElem?_set_self hl] at hj
    cases hj
    have h0 : H[a]? = some (vp_cell cA (n, .inr (.inr (.inr (.inr f))))) := hP k _ hk
    show H[a]? = some (vp_cell cA (n, .inr (.inr (.inr (.inr g)))))
    rw [h0, vp_cell_q, vp_cell_q, arrV_ext (fun j hj => by rw [h j hj])]
  · rw [List.getElem?_set_ne e] at hj
    exact hP j q hj
theorem wld_inj {A : Nat → Prop} {SH : List Shp} {ad : Nat → Nat} {dA : Nat → ClassId} {μ : Mm} (h : va_D A (wld ad dA μ 0 SH)) : Inj SH ad ∧ ∀ i, i < SH.length → A (ad i) := by
  refine ⟨fun i j hi hj e => ?_, fun i hi => ?_⟩
  · exact h.1 i j _ _ (wld_at (List.getElem?_eq_getElem hi)) (wld_at (List.getElem?_eq_getElem hj)) e
  · exact h.2 i _ (wld_at (List.getElem?_eq_getElem hi))
set_option maxRecDepth 100000 in
theorem startX {D : va_G} {dA : Nat → ClassId} {h0 : Nat} {u : Nat → Nat} {H : Heap} (h : va_P D CLS (pX dA h0 u) H) : va_P D CLS (wld (adr h0 u) dA μX0 0 SHX) H :=
  rep_P (k := 12) (g := fun j => some (adr h0 u (WK j))) h rfl (fun j hj => match j, hj with | 0, _ => rfl | 1, _ => rfl | 2, _ => rfl | 3, _ => rfl | 4, _ => rfl | 5, _ => rfl | 6, _ => rfl | 7, _ => rfl | k + 8, hk => absurd hk (by omega))
set_option maxRecDepth 100000 in
theorem startXD {A : Nat → Prop} {dA : Nat → ClassId} {h0 : Nat} {u : Nat → Nat} (h : va_D A (pX dA h0 u)) : va_D A (wld (adr h0 u) dA μX0 0 SHX) := h.set (p := 12) rfl
set_option maxRecDepth 100000 in
theorem startM {D : va_G} {dA : Nat → ClassId} {h0 : Nat} {u : Nat → Nat} {H : Heap} (h : va_P D CLS (pM dA h0 u) H) : va_P D CLS (wld (adr h0 u) dA μM0 0 SHM) H := h
set_option maxRecDepth 100000 in
theorem startMD {A : Nat → Prop} {dA : Nat → ClassId} {h0 : Nat} {u : Nat → Nat} (h : va_D A (pM dA h0 u)) : va_D A (wld (adr h0 u) dA μM0 0 SHM) := h
