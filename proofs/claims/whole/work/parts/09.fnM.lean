/-! the same for the reference -/
def f_M_in (N : Nat) (a1 : Int32) (a2 : Int32) (a3 : Int32) (μ : Mm) : Option (Int32 × Mm) :=
  if a1 < a2 then (
  some ((0 : Int32), μ)) else (
  if a3 < a1 then (
  some ((0 : Int32), μ)) else (
  some ((1 : Int32), μ)))
def f_M_meets (N : Nat) (a1 : Int32) (μ : Mm) : Option (Int32 × Mm) :=
  let μ1 := sI μ 0 0 a1
  if ixb a1 6 = true then (
  let x2 := ((μ1.1 1 (a1).toNatClampNeg) + (1 : Int32))
  if ixb a1 6 = true then (
  let μ3 := sI μ1 1 (a1).toNatClampNeg x2
  some ((-3 : Int32), μ3)) else none) else none
def f_M_finding (N : Nat)  (μ : Mm) : Option (Int32 × Mm) :=
  some ((μ.1 0 0), μ)
def f_M_findings (N : Nat) (a1 : Int32) (μ : Mm) : Option (Int32 × Mm) :=
  bn (f_M_in N a1 ((1 : Int32)) ((5 : Int32)) μ) (fun r2 μ1 => 
  if r2 = (0 : Int32) then (
  some ((-1 : Int32), μ1)) else (
  if ixb a1 6 = true then (
  some ((μ1.1 1 (a1).toNatClampNeg), μ1)) else none))
def f_M_tells (N : Nat) (a1 : Int32) (a2 : Int32) (μ : Mm) : Option (Int32 × Mm) :=
  let μ1 := sI μ 0 2 a1
  some (a2, μ1)
def f_M_asked (N : Nat)  (μ : Mm) : Option (Int32 × Mm) :=
  some ((μ.1 0 2), μ)
def f_M_gcd_L6 (N : Nat)   : Nat → Int64 → Int64 → Mm → Option (Int64 × Mm)
  | 0, _, _, _ => none
  | n + 1, v4, v6, μ =>
    if (lg_cmp v6 (0 : Int64)) = (0 : Int32) then (
    some (v4, μ)) else (
    if v6 = (0 : Int64) then none else (
    let x2 := (v4 - v4 / v6 * v6)
    (f_M_gcd_L6 N n) v6 x2 μ))
def f_M_gcd (N : Nat) (a1 : Int64) (a2 : Int64) (μ : Mm) : Option (Int64 × Mm) :=
  f_M_gcd_L6 N N a1 a2 μ
def f_M_fraction (N : Nat) (a1 : Int64) (a2 : Int64) (a3 : Int32) (μ : Mm) : Option (Int32 × Mm) :=
  bn (f_M_gcd N a1 a2 μ) (fun r2 μ1 => 
  if r2 = (0 : Int64) then none else (
  let μ3 := sL μ1 0 3 (a1 / r2)
  if r2 = (0 : Int64) then none else (
  let μ4 := sL μ3 0 4 (a2 / r2)
  some (a3, μ4))))
def f_M_upper (N : Nat)  (μ : Mm) : Option (Int64 × Mm) :=
  some ((μ.2 0 3), μ)
def f_M_lower (N : Nat)  (μ : Mm) : Option (Int64 × Mm) :=
  some ((μ.2 0 4), μ)
def f_M_isRow (N : Nat) (a1 : Int32) (μ : Mm) : Option (Int32 × Mm) :=
  bn (f_M_in N a1 ((0 : Int32)) ((7 : Int32)) μ) (fun r2 μ1 => 
  if zb r2 = true then some (r2, μ1) else none)
def f_M_at (N : Nat) (a1 : Int32) (a2 : Int32) (μ : Mm) : Option (Int32 × Mm) :=
  let x1 := (((40 : Int32) * a1) + a2)
  if ixb x1 320 = true then (
  some ((μ.1 3 (x1).toNatClampNeg), μ)) else none
def f_M_row_L34 (N : Nat)   : Nat → Int32 → Int32 → Int32 → Mm → Option (Int32 × Mm)
  | 0, _, _, _, _ => none
  | n + 1, v1, v2, v3, μ =>
    if (40 : Int32) ≤ v3 then (
    some (v2, μ)) else (
    let x10 := (((40 : Int32) * v1) + v3)
    if ixb x10 320 = true then (
    let μ11 := sI μ 3 (x10).toNatClampNeg (vp_nar .byte (0 : Int32))
    let x12 := (v3 + (1 : Int32))
    (f_M_row_L34 N n) v1 v2 x12 μ11) else none)
def f_M_row (N : Nat) (a1 : Int32) (a2 : Int32) (μ : Mm) : Option (Int32 × Mm) :=
  bn (f_M_isRow N a1 μ) (fun r2 μ1 => 
  if r2 = (0 : Int32) then (
  some ((-1 : Int32), μ1)) else (
  if a2 ≤ (40 : Int32) then (
  if (0 : Int32) ≤ a2 then (
  if ixb a1 8 = true then (
  let μ6 := sI μ1 2 (a1).toNatClampNeg a2
  f_M_row_L34 N N a1 a2 (0 : Int32) μ6) else none) else (
  bn (f_M_meets N ((5 : Int32)) μ1) (fun r8 μ7 => 
  some (r8, μ7)))) else (
  some ((-1 : Int32), μ1))))
def f_M_lay (N : Nat) (a1 : Int32) (a2 : Int32) (a3 : Int32) (μ : Mm) : Option (Int32 × Mm) :=
  bn (f_M_isRow N a1 μ) (fun r2 μ1 => 
  if r2 = (0 : Int32) then (
  some ((-1 : Int32), μ1)) else (
  if ixb a1 8 = true then (
  if (0 : Int32) ≤ (μ1.1 2 (a1).toNatClampNeg) then (
  if ixb a1 8 = true then (
  bn (f_M_in N a2 ((0 : Int32)) (((μ1.1 2 (a1).toNatClampNeg) - (1 : Int32))) μ1) (fun r6 μ5 => 
  if r6 = (0 : Int32) then (
  bn (f_M_meets N ((2 : Int32)) μ5) (fun r9 μ8 => 
  some (r9, μ8))) else (
  bn (f_M_at N a1 a2 μ5) (fun r11 μ10 => 
  let x12 := (a3).toInt8.toInt32
  let x13 := (((40 : Int32) * a1) + a2)
  if ixb x13 320 = true then (
  let μ14 := sI μ10 3 (x13).toNatClampNeg (vp_nar .byte x12)
  some (((1000 : Int32) + r11), μ14)) else none)))) else none) else (
  bn (f_M_meets N ((1 : Int32)) μ1) (fun r16 μ15 => 
  some (r16, μ15)))) else none))
def f_M_tear (N : Nat) (a1 : Int32) (μ : Mm) : Option (Int32 × Mm) :=
  bn (f_M_isRow N a1 μ) (fun r2 μ1 => 
  if r2 = (0 : Int32) then (
  some ((-1 : Int32), μ1)) else (
  if ixb a1 8 = true then (
  if (0 : Int32) ≤ (μ1.1 2 (a1).toNatClampNeg) then (
  if ixb a1 8 = true then (
  let μ5 := sI μ1 2 (a1).toNatClampNeg (-1 : Int32)
  some ((1 : Int32), μ5)) else none) else (
  bn (f_M_meets N ((1 : Int32)) μ1) (fun r7 μ6 => 
  some (r7, μ6)))) else none))
def f_M_copy_L135 (N : Nat)   : Nat → Int32 → Int32 → Int32 → Int32 → Mm → Option (Int32 × Mm)
  | 0, _, _, _, _, _ => none
  | n + 1, v3, v4, v5, v6, μ =>
    if v5 ≤ v6 then (
    some ((1 : Int32), μ)) else (
    if ixb v6 40 = true then (
    let x20 := (μ.1 4 (v6).toNatClampNeg)
    let x21 := ((((40 : Int32) * v3) + v4) + v6)
    if ixb x21 320 = true then (
    let μ22 := sI μ 3 (x21).toNatClampNeg (vp_nar .byte x20)
    let x23 := (v6 + (1 : Int32))
    (f_M_copy_L135 N n) v3 v4 v5 x23 μ22) else none) else none)
def f_M_copy_B132 (N : Nat)   (v3 : Int32) (v4 : Int32) (v5 : Int32) (μ : Mm) : Option (Int32 × Mm) :=
  f_M_copy_L135 N N v3 v4 v5 (0 : Int32) μ
def f_M_copy_L98 (N : Nat)   : Nat → Int32 → Int32 → Int32 → Int32 → Int32 → Int32 → Mm → Option (Int32 × Mm)
  | 0, _, _, _, _, _, _, _ => none
  | n + 1, v1, v2, v3, v4, v5, v6, μ =>
    if v5 ≤ v6 then (
    f_M_copy_B132 N v3 v4 v5 μ) else (
    let x15 := ((((40 : Int32) * v1) + v2) + v6)
    if ixb x15 320 = true then (
    let x16 := (μ.1 3 (x15).toNatClampNeg)
    if ixb v6 40 = true then (
    let μ17 := sI μ 4 (v6).toNatClampNeg (vp_nar .byte x16)
    let x18 := (v6 + (1 : Int32))
    (f_M_copy_L98 N n) v1 v2 v3 v4 v5 x18 μ17) else none) else none)
def f_M_copy_B89 (N : Nat)    (μ : Mm) : Option (Int32 × Mm) :=
  bn (f_M_meets N ((2 : Int32)) μ) (fun r25 μ24 => 
  some (r25, μ24))
def f_M_copy_B34 (N : Nat)    (μ : Mm) : Option (Int32 × Mm) :=
  bn (f_M_meets N ((1 : Int32)) μ) (fun r27 μ26 => 
  some (r27, μ26))
def f_M_copy (N : Nat) (a1 : Int32) (a2 : Int32) (a3 : Int32) (a4 : Int32) (a5 : Int32) (μ : Mm) : Option (Int32 × Mm) :=
  bn (f_M_isRow N a1 μ) (fun r2 μ1 => 
  if r2 = (0 : Int32) then (
  some ((-1 : Int32), μ1)) else (
  bn (f_M_isRow N a3 μ1) (fun r5 μ4 => 
  if r5 = (0 : Int32) then (
  some ((-1 : Int32), μ4)) else (
  if ixb a1 8 = true then (
  if (μ4.1 2 (a1).toNatClampNeg) < (0 : Int32) then (
  f_M_copy_B34 N μ4) else (
  if ixb a3 8 = true then (
  if (0 : Int32) ≤ (μ4.1 2 (a3).toNatClampNeg) then (
  if a2 < (0 : Int32) then (
  f_M_copy_B89 N μ4) else (
  if a4 < (0 : Int32) then (
  f_M_copy_B89 N μ4) else (
  if a5 < (0 : Int32) then (
  f_M_copy_B89 N μ4) else (
  if ixb a1 8 = true then (
  if (0 : Int32) < (lg_cmp ((a2).toInt64 + (a5).toInt64) ((μ4.1 2 (a1).toNatClampNeg)).toInt64) then (
  f_M_copy_B89 N μ4) else (
  if ixb a3 8 = true then (
  if (lg_cmp ((a4).toInt64 + (a5).toInt64) ((μ4.1 2 (a3).toNatClampNeg)).toInt64) ≤ (0 : Int32) then (
  f_M_copy_L98 N N a1 a2 a3 a4 a5 (0 : Int32) μ4) else (
  f_M_copy_B89 N μ4)) else none)) else none)))) else (
  f_M_copy_B34 N μ4)) else none)) else none))))
def f_M_mean_B53 (N : Nat)   (v1 : Int32) (v2 : Int32) (μ : Mm) : Option (Int32 × Mm) :=
  if ixb v1 8 = true then (
  if (μ.1 2 (v1).toNatClampNeg) = (0 : Int32) then (
  bn (f_M_meets N ((4 : Int32)) μ) (fun r14 μ13 => 
  some (r14, μ13))) else (
  if ixb v1 8 = true then (
  let x15 := (μ.1 2 (v1).toNatClampNeg)
  if x15 = (0 : Int32) then none else (
  some ((v2 / x15), μ))) else none)) else none
def f_M_mean_L28 (N : Nat)   : Nat → Int32 → Int32 → Int32 → Mm → Option (Int32 × Mm)
  | 0, _, _, _, _ => none
  | n + 1, v1, v2, v3, μ =>
    if ixb v1 8 = true then (
    if (μ.1 2 (v1).toNatClampNeg) ≤ v3 then (
    f_M_mean_B53 N v1 v2 μ) else (
    bn (f_M_at N v1 v3 μ) (fun r9 μ8 => 
    let x10 := (v2 + r9)
    let x11 := (v3 + (1 : Int32))
    (f_M_mean_L28 N n) v1 x10 x11 μ8))) else none
def f_M_mean (N : Nat) (a1 : Int32) (μ : Mm) : Option (Int32 × Mm) :=
  bn (f_M_isRow N a1 μ) (fun r2 μ1 => 
  if r2 = (0 : Int32) then (
  some ((-1 : Int32), μ1)) else (
  if ixb a1 8 = true then (
  if (0 : Int32) ≤ (μ1.1 2 (a1).toNatClampNeg) then (
  f_M_mean_L28 N N a1 (0 : Int32) (0 : Int32) μ1) else (
  bn (f_M_meets N ((1 : Int32)) μ1) (fun r6 μ5 => 
  some (r6, μ5)))) else none))
def f_M_clear_B62 (N : Nat)  (k41 : Int32 → Int32 → Mm → Option Mm) (v2 : Int32) (v3 : Int32) (s1 : Int32) (s2 : Int32) (μ : Mm) : Option Mm :=
  if ixb s1 16 = true then (
  let μ9 := sI μ 7 (s1).toNatClampNeg s2
  if ixb v3 16 = true then (
  let μ10 := sI μ9 8 (v3).toNatClampNeg (vp_nar .boolean (0 : Int32))
  let x11 := (v3 + (1 : Int32))
  k41 v2 x11 μ10) else none) else none
def f_M_clear_L41 (N : Nat)   : Nat → Int32 → Int32 → Mm → Option Mm
  | 0, _, _, _ => none
  | n + 1, v2, v3, μ =>
    if (16 : Int32) ≤ v3 then (
    some μ) else (
    if v2 ≤ v3 then (
    f_M_clear_B62 N (f_M_clear_L41 N n) v2 v3 v3 (0 : Int32) μ) else (
    f_M_clear_B62 N (f_M_clear_L41 N n) v2 v3 v3 (1 : Int32) μ))
def f_M_clear_B39 (N : Nat)   (v2 : Int32) (μ : Mm) : Option Mm :=
  f_M_clear_L41 N N v2 (0 : Int32) μ
def f_M_clear_L12 (N : Nat)   : Nat → Int32 → Int32 → Mm → Option Mm
  | 0, _, _, _ => none
  | n + 1, v2, v3, μ =>
    if (256 : Int32) ≤ v3 then (
    f_M_clear_B39 N v2 μ) else (
    if ixb v3 256 = true then (
    let μ4 := sI μ 5 (v3).toNatClampNeg (0 : Int32)
    if ixb v3 256 = true then (
    let μ5 := sI μ4 6 (v3).toNatClampNeg (vp_nar .boolean (0 : Int32))
    let x6 := (v3 + (1 : Int32))
    (f_M_clear_L12 N n) v2 x6 μ5) else none) else none)
def f_M_clear (N : Nat) (a1 : Int32) (a2 : Int32) (μ : Mm) : Option Mm :=
  let μ1 := sI μ 0 8 a1
  let μ2 := sI μ1 0 9 a2
  f_M_clear_L12 N N a2 (0 : Int32) μ2
def f_M_join (N : Nat) (a1 : Int32) (a2 : Int32) (a3 : Int32) (μ : Mm) : Option Mm :=
  let x1 := (((16 : Int32) * a1) + a2)
  if ixb x1 256 = true then (
  let μ2 := sI μ 5 (x1).toNatClampNeg a3
  let x3 := (((16 : Int32) * a2) + a1)
  if ixb x3 256 = true then (
  let μ4 := sI μ2 5 (x3).toNatClampNeg a3
  some μ4) else none) else none
def f_M_fence_B169 (N : Nat)    (μ : Mm) : Option (Int32 × Mm) :=
  some ((μ.1 0 9), μ)
def f_M_fence_L135 (N : Nat)   : Nat → Int32 → Int32 → Int32 → Mm → Option (Int32 × Mm)
  | 0, _, _, _, _ => none
  | n + 1, v1, v3, v5, μ =>
    if v3 ≤ v5 then (
    f_M_fence_B169 N μ) else (
    let x28 := (μ.1 0 9)
    let x29 := (v5 + (1 : Int32))
    if x28 = (0 : Int32) then none else (
    bn (f_M_at N v1 v5 μ) (fun r31 μ30 => 
    bv (f_M_join N v5 ((x29 - x29 / x28 * x28)) r31 μ30) (fun μ32 => 
    let x33 := (v5 + (1 : Int32))
    (f_M_fence_L135 N n) v1 v3 x33 μ32))))
def f_M_fence_B129 (N : Nat)   (v1 : Int32) (v3 : Int32) (s1 : Int32) (s2 : Int32) (μ : Mm) : Option (Int32 × Mm) :=
  bv (f_M_clear N s1 s2 μ) (fun μ26 => 
  f_M_fence_L135 N N v1 v3 (0 : Int32) μ26)
def f_M_fence_B118 (N : Nat)   (v1 : Int32) (v2 : Int32) (v3 : Int32) (s1 : Int32) (μ : Mm) : Option (Int32 × Mm) :=
  if v2 = (0 : Int32) then (
  f_M_fence_B129 N v1 v3 s1 (v3 + (1 : Int32)) μ) else (
  f_M_fence_B129 N v1 v3 s1 v3 μ)
def f_M_fence_B97 (N : Nat)   (v1 : Int32) (v2 : Int32) (v3 : Int32) (v4 : Int32) (μ : Mm) : Option (Int32 × Mm) :=
  if v4 = (0 : Int32) then (
  bn (f_M_meets N ((5 : Int32)) μ) (fun r23 μ22 => 
  some (r23, μ22))) else (
  if v2 = (0 : Int32) then (
  f_M_fence_B118 N v1 v2 v3 (0 : Int32) μ) else (
  f_M_fence_B118 N v1 v2 v3 (1 : Int32) μ))
def f_M_fence_B89 (N : Nat)  (k57 : Int32 → Int32 → Int32 → Int32 → Int32 → Mm → Option (Int32 × Mm)) (v1 : Int32) (v2 : Int32) (v3 : Int32) (v5 : Int32) (s0 : Int32) (μ : Mm) : Option (Int32 × Mm) :=
  let x20 := (v5 + (1 : Int32))
  k57 v1 v2 v3 s0 x20 μ
def f_M_fence_B88 (N : Nat)  (k57 : Int32 → Int32 → Int32 → Int32 → Int32 → Mm → Option (Int32 × Mm)) (v1 : Int32) (v2 : Int32) (v3 : Int32) (v5 : Int32) (μ : Mm) : Option (Int32 × Mm) :=
  f_M_fence_B89 N k57 v1 v2 v3 v5 (0 : Int32) μ
def f_M_fence_L57 (N : Nat)   : Nat → Int32 → Int32 → Int32 → Int32 → Int32 → Mm → Option (Int32 × Mm)
  | 0, _, _, _, _, _, _ => none
  | n + 1, v1, v2, v3, v4, v5, μ =>
    if v3 ≤ v5 then (
    f_M_fence_B97 N v1 v2 v3 v4 μ) else (
    if v4 = (0 : Int32) then (
    f_M_fence_B88 N (f_M_fence_L57 N n) v1 v2 v3 v5 μ) else (
    bn (f_M_at N v1 v5 μ) (fun r16 μ15 => 
    bn (f_M_in N r16 ((1 : Int32)) ((30 : Int32)) μ15) (fun r18 μ17 => 
    if r18 = (0 : Int32) then (
    f_M_fence_B88 N (f_M_fence_L57 N n) v1 v2 v3 v5 μ17) else (
    f_M_fence_B89 N (f_M_fence_L57 N n) v1 v2 v3 v5 (1 : Int32) μ17)))))
def f_M_fence_B52 (N : Nat)   (v1 : Int32) (v2 : Int32) (v3 : Int32) (s0 : Int32) (μ : Mm) : Option (Int32 × Mm) :=
  f_M_fence_L57 N N v1 v2 v3 s0 (0 : Int32) μ
def f_M_fence (N : Nat) (a1 : Int32) (a2 : Int32) (μ : Mm) : Option (Int32 × Mm) :=
  bn (f_M_isRow N a1 μ) (fun r2 μ1 => 
  if r2 = (0 : Int32) then (
  some ((-1 : Int32), μ1)) else (
  if ixb a1 8 = true then (
  if (0 : Int32) ≤ (μ1.1 2 (a1).toNatClampNeg) then (
  if ixb a1 8 = true then (
  let x5 := (μ1.1 2 (a1).toNatClampNeg)
  if a2 = (0 : Int32) then (
  bn (f_M_in N x5 ((1 : Int32)) ((15 : Int32)) μ1) (fun r8 μ7 => 
  f_M_fence_B52 N a1 a2 x5 r8 μ7)) else (
  bn (f_M_in N x5 ((3 : Int32)) ((16 : Int32)) μ1) (fun r10 μ9 => 
  f_M_fence_B52 N a1 a2 x5 r10 μ9))) else none) else (
  bn (f_M_meets N ((1 : Int32)) μ1) (fun r12 μ11 => 
  some (r12, μ11)))) else none))
def f_M_net (N : Nat) (a1 : Int32) (μ : Mm) : Option (Int32 × Mm) :=
  bn (f_M_in N a1 ((1 : Int32)) ((16 : Int32)) μ) (fun r2 μ1 => 
  if r2 = (0 : Int32) then (
  some ((-1 : Int32), μ1)) else (
  bv (f_M_clear N ((2 : Int32)) a1 μ1) (fun μ4 => 
  some (a1, μ4))))
def f_M_isPost (N : Nat) (a1 : Int32) (μ : Mm) : Option (Int32 × Mm) :=
  bn (f_M_in N a1 ((0 : Int32)) (((μ.1 0 9) - (1 : Int32))) μ) (fun r2 μ1 => 
  if zb r2 = true then some (r2, μ1) else none)
def f_M_walls_B74 (N : Nat)  (k4 : Int32 → Int32 → Int32 → Mm → Option (Int32 × Mm)) (v1 : Int32) (v2 : Int32) (v3 : Int32) (μ : Mm) : Option (Int32 × Mm) :=
  let x11 := (v3 + (1 : Int32))
  k4 v1 v2 x11 μ
def f_M_walls_B66 (N : Nat)  (k4 : Int32 → Int32 → Int32 → Mm → Option (Int32 × Mm)) (k17 : Int32 → Int32 → Int32 → Int32 → Mm → Option (Int32 × Mm)) (v1 : Int32) (v3 : Int32) (v4 : Int32) (s0 : Int32) (s1 : Int32) (μ : Mm) : Option (Int32 × Mm) :=
  let x9 := (s0 + s1)
  let x10 := (v4 + (1 : Int32))
  k17 v1 x9 v3 x10 μ
def f_M_walls_B65 (N : Nat)  (k4 : Int32 → Int32 → Int32 → Mm → Option (Int32 × Mm)) (k17 : Int32 → Int32 → Int32 → Int32 → Mm → Option (Int32 × Mm)) (v1 : Int32) (v3 : Int32) (v4 : Int32) (s0 : Int32) (μ : Mm) : Option (Int32 × Mm) :=
  f_M_walls_B66 N k4 k17 v1 v3 v4 s0 (0 : Int32) μ
def f_M_walls_B61 (N : Nat)  (k4 : Int32 → Int32 → Int32 → Mm → Option (Int32 × Mm)) (k17 : Int32 → Int32 → Int32 → Int32 → Mm → Option (Int32 × Mm)) (v1 : Int32) (v3 : Int32) (v4 : Int32) (s0 : Int32) (μ : Mm) : Option (Int32 × Mm) :=
  f_M_walls_B66 N k4 k17 v1 v3 v4 s0 (1 : Int32) μ
def f_M_walls_L17 (N : Nat)  (k4 : Int32 → Int32 → Int32 → Mm → Option (Int32 × Mm)) : Nat → Int32 → Int32 → Int32 → Int32 → Mm → Option (Int32 × Mm)
  | 0, _, _, _, _, _ => none
  | n + 1, v1, v2, v3, v4, μ =>
    if (μ.1 0 9) ≤ v4 then (
    f_M_walls_B74 N k4 v1 v2 v3 μ) else (
    let x4 := (((16 : Int32) * v3) + v4)
    if ixb x4 256 = true then (
    if (μ.1 5 (x4).toNatClampNeg) ≤ (0 : Int32) then (
    f_M_walls_B65 N k4 (f_M_walls_L17 N k4 n) v1 v3 v4 v2 μ) else (
    if v1 = (0 : Int32) then (
    f_M_walls_B61 N k4 (f_M_walls_L17 N k4 n) v1 v3 v4 v2 μ) else (
    let x7 := (((16 : Int32) * v3) + v4)
    if ixb x7 256 = true then (
    if (μ.1 6 (x7).toNatClampNeg) = (0 : Int32) then (
    f_M_walls_B65 N k4 (f_M_walls_L17 N k4 n) v1 v3 v4 v2 μ) else (
    f_M_walls_B61 N k4 (f_M_walls_L17 N k4 n) v1 v3 v4 v2 μ)) else none))) else none)
def f_M_walls_L4 (N : Nat)   : Nat → Int32 → Int32 → Int32 → Mm → Option (Int32 × Mm)
  | 0, _, _, _, _ => none
  | n + 1, v1, v2, v3, μ =>
    if (μ.1 0 9) ≤ v3 then (
    some (v2, μ)) else (
    let x2 := (v3 + (1 : Int32))
    f_M_walls_L17 N (f_M_walls_L4 N n) N v1 v2 v3 x2 μ)
def f_M_walls (N : Nat) (a1 : Int32) (μ : Mm) : Option (Int32 × Mm) :=
  f_M_walls_L4 N N a1 (0 : Int32) (0 : Int32) μ
def f_M_wall (N : Nat) (a1 : Int32) (a2 : Int32) (a3 : Int32) (μ : Mm) : Option (Int32 × Mm) :=
  bn (f_M_isPost N a1 μ) (fun r2 μ1 => 
  if r2 = (0 : Int32) then (
  some ((-1 : Int32), μ1)) else (
  bn (f_M_isPost N a2 μ1) (fun r5 μ4 => 
  if r5 = (0 : Int32) then (
  some ((-1 : Int32), μ4)) else (
  if a1 = a2 then (
  some ((-1 : Int32), μ4)) else (
  bn (f_M_in N a3 ((1 : Int32)) ((30 : Int32)) μ4) (fun r9 μ8 => 
  if r9 = (0 : Int32) then (
  some ((-1 : Int32), μ8)) else (
  let x11 := (((16 : Int32) * a1) + a2)
  if ixb x11 256 = true then (
  if (μ8.1 5 (x11).toNatClampNeg) ≤ (0 : Int32) then (
  bn (f_M_walls N ((0 : Int32)) μ8) (fun r14 μ13 => 
  if r14 = (40 : Int32) then (
  some ((-2 : Int32), μ13)) else (
  if (μ13.1 0 8) = (2 : Int32) then (
  bv (f_M_join N a1 a2 a3 μ13) (fun μ17 => 
  bn (f_M_walls N ((0 : Int32)) μ17) (fun r19 μ18 => 
  some (r19, μ18)))) else (
  bn (f_M_meets N ((3 : Int32)) μ13) (fun r21 μ20 => 
  some (r21, μ20)))))) else (
  some ((-1 : Int32), μ8))) else none)))))))
def f_M_breaks_B57 (N : Nat)   (v1 : Int32) (v2 : Int32) (v3 : Int32) (s0 : Int32) (μ : Mm) : Option (Int32 × Mm) :=
  let x13 := (((16 : Int32) * v1) + v2)
  if ixb x13 256 = true then (
  let μ14 := sI μ 6 (x13).toNatClampNeg (vp_nar .boolean v3)
  let x15 := (((16 : Int32) * v2) + v1)
  if ixb x15 256 = true then (
  let μ16 := sI μ14 6 (x15).toNatClampNeg (vp_nar .boolean v3)
  some (s0, μ16)) else none) else none
def f_M_breaks (N : Nat) (a1 : Int32) (a2 : Int32) (a3 : Int32) (μ : Mm) : Option (Int32 × Mm) :=
  bn (f_M_isPost N a1 μ) (fun r2 μ1 => 
  if r2 = (0 : Int32) then (
  some ((-1 : Int32), μ1)) else (
  bn (f_M_isPost N a2 μ1) (fun r5 μ4 => 
  if r5 = (0 : Int32) then (
  some ((-1 : Int32), μ4)) else (
  let x7 := (((16 : Int32) * a1) + a2)
  if ixb x7 256 = true then (
  if (μ4.1 5 (x7).toNatClampNeg) = (0 : Int32) then (
  bn (f_M_meets N ((1 : Int32)) μ4) (fun r10 μ9 => 
  some (r10, μ9))) else (
  let x11 := (((16 : Int32) * a1) + a2)
  if ixb x11 256 = true then (
  if (μ4.1 6 (x11).toNatClampNeg) = (0 : Int32) then (
  f_M_breaks_B57 N a1 a2 a3 (0 : Int32) μ4) else (
  f_M_breaks_B57 N a1 a2 a3 (1 : Int32) μ4)) else none)) else none))))
def f_M_layFars_B193 (N : Nat)  (k85 : Int32 → Mm → Option Mm) (v1 : Int32) (μ : Mm) : Option Mm :=
  let x22 := (v1 + (1 : Int32))
  k85 x22 μ
def f_M_layFars_B187 (N : Nat)  (k85 : Int32 → Mm → Option Mm) (k95 : Int32 → Int32 → Mm → Option Mm) (v1 : Int32) (v2 : Int32) (μ : Mm) : Option Mm :=
  let x21 := (v2 + (1 : Int32))
  k95 v1 x21 μ
def f_M_layFars_B180 (N : Nat)  (k85 : Int32 → Mm → Option Mm) (k95 : Int32 → Int32 → Mm → Option Mm) (k105 : Int32 → Int32 → Int32 → Mm → Option Mm) (v1 : Int32) (v2 : Int32) (v3 : Int32) (s1 : Int32) (s2 : Int32) (μ : Mm) : Option Mm :=
  if ixb s1 256 = true then (
  let μ19 := sI μ 9 (s1).toNatClampNeg s2
  let x20 := (v3 + (1 : Int32))
  k105 v1 v2 x20 μ19) else none
def f_M_layFars_L105 (N : Nat)  (k85 : Int32 → Mm → Option Mm) (k95 : Int32 → Int32 → Mm → Option Mm) : Nat → Int32 → Int32 → Int32 → Mm → Option Mm
  | 0, _, _, _, _ => none
  | n + 1, v1, v2, v3, μ =>
    if (μ.1 0 9) ≤ v3 then (
    f_M_layFars_B187 N k85 k95 v1 v2 μ) else (
    let x13 := (((16 : Int32) * v2) + v1)
    if ixb x13 256 = true then (
    let x14 := (((16 : Int32) * v1) + v3)
    if ixb x14 256 = true then (
    let x15 := ((μ.1 9 (x13).toNatClampNeg) + (μ.1 9 (x14).toNatClampNeg))
    let x16 := (((16 : Int32) * v2) + v3)
    if ixb x16 256 = true then (
    if (μ.1 9 (x16).toNatClampNeg) ≤ x15 then (
    let x18 := (((16 : Int32) * v2) + v3)
    if ixb x18 256 = true then (
    f_M_layFars_B180 N k85 k95 (f_M_layFars_L105 N k85 k95 n) v1 v2 v3 (((16 : Int32) * v2) + v3) (μ.1 9 (x18).toNatClampNeg) μ) else none) else (
    f_M_layFars_B180 N k85 k95 (f_M_layFars_L105 N k85 k95 n) v1 v2 v3 (((16 : Int32) * v2) + v3) x15 μ)) else none) else none) else none)
def f_M_layFars_L95 (N : Nat)  (k85 : Int32 → Mm → Option Mm) : Nat → Int32 → Int32 → Mm → Option Mm
  | 0, _, _, _ => none
  | n + 1, v1, v2, μ =>
    if (μ.1 0 9) ≤ v2 then (
    f_M_layFars_B193 N k85 v1 μ) else (
    f_M_layFars_L105 N k85 (f_M_layFars_L95 N k85 n) N v1 v2 (0 : Int32) μ)
def f_M_layFars_L85 (N : Nat)   : Nat → Int32 → Mm → Option Mm
  | 0, _, _ => none
  | n + 1, v1, μ =>
    if (μ.1 0 9) ≤ v1 then (
    some μ) else (
    f_M_layFars_L95 N (f_M_layFars_L85 N n) N v1 (0 : Int32) μ)
def f_M_layFars_B83 (N : Nat)    (μ : Mm) : Option Mm :=
  f_M_layFars_L85 N N (0 : Int32) μ
def f_M_layFars_B77 (N : Nat)  (k2 : Int32 → Mm → Option Mm) (v1 : Int32) (μ : Mm) : Option Mm :=
  let x9 := (v1 + (1 : Int32))
  k2 x9 μ
def f_M_layFars_B70 (N : Nat)  (k2 : Int32 → Mm → Option Mm) (k12 : Int32 → Int32 → Mm → Option Mm) (v1 : Int32) (v2 : Int32) (s1 : Int32) (s2 : Int32) (μ : Mm) : Option Mm :=
  if ixb s1 256 = true then (
  let μ7 := sI μ 9 (s1).toNatClampNeg s2
  let x8 := (v2 + (1 : Int32))
  k12 v1 x8 μ7) else none
def f_M_layFars_B68 (N : Nat)  (k2 : Int32 → Mm → Option Mm) (k12 : Int32 → Int32 → Mm → Option Mm) (v1 : Int32) (v2 : Int32) (s1 : Int32) (μ : Mm) : Option Mm :=
  f_M_layFars_B70 N k2 k12 v1 v2 s1 (1000000 : Int32) μ
def f_M_layFars_L12 (N : Nat)  (k2 : Int32 → Mm → Option Mm) : Nat → Int32 → Int32 → Mm → Option Mm
  | 0, _, _, _ => none
  | n + 1, v1, v2, μ =>
    if (μ.1 0 9) ≤ v2 then (
    f_M_layFars_B77 N k2 v1 μ) else (
    let x3 := (((16 : Int32) * v1) + v2)
    if v1 = v2 then (
    f_M_layFars_B70 N k2 (f_M_layFars_L12 N k2 n) v1 v2 x3 (0 : Int32) μ) else (
    if ixb x3 256 = true then (
    if (μ.1 5 (x3).toNatClampNeg) ≤ (0 : Int32) then (
    f_M_layFars_B68 N k2 (f_M_layFars_L12 N k2 n) v1 v2 x3 μ) else (
    if ixb x3 256 = true then (
    if (μ.1 6 (x3).toNatClampNeg) = (0 : Int32) then (
    if ixb x3 256 = true then (
    f_M_layFars_B70 N k2 (f_M_layFars_L12 N k2 n) v1 v2 x3 (μ.1 5 (x3).toNatClampNeg) μ) else none) else (
    f_M_layFars_B68 N k2 (f_M_layFars_L12 N k2 n) v1 v2 x3 μ)) else none)) else none))
def f_M_layFars_L2 (N : Nat)   : Nat → Int32 → Mm → Option Mm
  | 0, _, _ => none
  | n + 1, v1, μ =>
    if (μ.1 0 9) ≤ v1 then (
    f_M_layFars_B83 N μ) else (
    f_M_layFars_L12 N (f_M_layFars_L2 N n) N v1 (0 : Int32) μ)
def f_M_layFars (N : Nat)  (μ : Mm) : Option Mm :=
  f_M_layFars_L2 N N (0 : Int32) μ
def f_M_far (N : Nat) (a1 : Int32) (a2 : Int32) (μ : Mm) : Option (Int32 × Mm) :=
  bn (f_M_isPost N a1 μ) (fun r2 μ1 => 
  if r2 = (0 : Int32) then (
  some ((-1 : Int32), μ1)) else (
  bn (f_M_isPost N a2 μ1) (fun r5 μ4 => 
  if r5 = (0 : Int32) then (
  some ((-1 : Int32), μ4)) else (
  bv (f_M_layFars N μ4) (fun μ7 => 
  let x8 := (((16 : Int32) * a1) + a2)
  if ixb x8 256 = true then (
  let x9 := (μ7.1 9 (x8).toNatClampNeg)
  if x9 < (1000000 : Int32) then (
  some (x9, μ7)) else (
  some ((-9 : Int32), μ7))) else none)))))
def f_M_worth (N : Nat) (a1 : Int32) (a2 : Int32) (μ : Mm) : Option (Int32 × Mm) :=
  bn (f_M_isPost N a1 μ) (fun r2 μ1 => 
  if r2 = (0 : Int32) then (
  some ((-1 : Int32), μ1)) else (
  bn (f_M_in N a2 ((0 : Int32)) ((9 : Int32)) μ1) (fun r5 μ4 => 
  if r5 = (0 : Int32) then (
  some ((-1 : Int32), μ4)) else (
  if ixb a1 16 = true then (
  let x7 := (μ4.1 7 (a1).toNatClampNeg)
  if ixb a1 16 = true then (
  let μ8 := sI μ4 7 (a1).toNatClampNeg a2
  some (x7, μ8)) else none) else none))))
def f_M_base_B24 (N : Nat)   (v1 : Int32) (v2 : Int32) (s0 : Int32) (μ : Mm) : Option (Int32 × Mm) :=
  if ixb v1 16 = true then (
  let μ5 := sI μ 8 (v1).toNatClampNeg (vp_nar .boolean v2)
  some (s0, μ5)) else none
def f_M_base (N : Nat) (a1 : Int32) (a2 : Int32) (μ : Mm) : Option (Int32 × Mm) :=
  bn (f_M_isPost N a1 μ) (fun r2 μ1 => 
  if r2 = (0 : Int32) then (
  some ((-1 : Int32), μ1)) else (
  if ixb a1 16 = true then (
  if (μ1.1 8 (a1).toNatClampNeg) = (0 : Int32) then (
  f_M_base_B24 N a1 a2 (0 : Int32) μ1) else (
  f_M_base_B24 N a1 a2 (1 : Int32) μ1)) else none))
def f_M_walker_B154 (N : Nat)   (v5 : Int32) (s1 : Int32) (s2 : Int32) (μ : Mm) : Option (Int32 × Mm) :=
  if ixb s1 8 = true then (
  let μ27 := sI μ 13 (s1).toNatClampNeg s2
  if ixb v5 8 = true then (
  let μ28 := sI μ27 14 (v5).toNatClampNeg (0 : Int32)
  if ixb v5 8 = true then (
  let μ29 := sI μ28 15 (v5).toNatClampNeg (vp_nar .boolean (0 : Int32))
  if ixb v5 8 = true then (
  let μ30 := sI μ29 16 (v5).toNatClampNeg (vp_nar .boolean (0 : Int32))
  if ixb v5 8 = true then (
  let μ31 := sI μ30 17 (v5).toNatClampNeg (0 : Int32)
  if ixb v5 8 = true then (
  let μ32 := sI μ31 20 (v5).toNatClampNeg (-9 : Int32)
  let μ33 := sI μ32 0 15 ((μ32.1 0 15) + (1 : Int32))
  some (v5, μ33)) else none) else none) else none) else none) else none) else none
def f_M_walker_B136 (N : Nat)   (v1 : Int32) (v2 : Int32) (v5 : Int32) (s1 : Int32) (s2 : Int32) (μ : Mm) : Option (Int32 × Mm) :=
  if ixb s1 8 = true then (
  let μ25 := sI μ 12 (s1).toNatClampNeg s2
  if v1 = (3 : Int32) then (
  f_M_walker_B154 N v5 v5 v2 μ25) else (
  f_M_walker_B154 N v5 v5 (-9 : Int32) μ25)) else none
def f_M_walker_B119 (N : Nat)   (v1 : Int32) (v2 : Int32) (v3 : Int32) (v5 : Int32) (s1 : Int32) (s2 : Int32) (μ : Mm) : Option (Int32 × Mm) :=
  if ixb s1 8 = true then (
  let μ23 := sI μ 11 (s1).toNatClampNeg s2
  if v1 = (2 : Int32) then (
  f_M_walker_B136 N v1 v2 v5 v5 v3 μ23) else (
  f_M_walker_B136 N v1 v2 v5 v5 (0 : Int32) μ23)) else none
def f_M_walker_B114 (N : Nat)   (v1 : Int32) (v2 : Int32) (v3 : Int32) (v5 : Int32) (s1 : Int32) (μ : Mm) : Option (Int32 × Mm) :=
  f_M_walker_B119 N v1 v2 v3 v5 s1 v2 μ
def f_M_walker_B63 (N : Nat)   (v1 : Int32) (v2 : Int32) (v3 : Int32) (s0 : Int32) (μ : Mm) : Option (Int32 × Mm) :=
  if s0 = (0 : Int32) then (
  some ((-1 : Int32), μ)) else (
  if (μ.1 0 15) = (8 : Int32) then (
  some ((-2 : Int32), μ)) else (
  let x19 := (μ.1 0 15)
  if ixb x19 8 = true then (
  let μ20 := sI μ 10 (x19).toNatClampNeg v1
  if v1 = (1 : Int32) then (
  f_M_walker_B114 N v1 v2 v3 x19 x19 μ20) else (
  if v1 = (2 : Int32) then (
  f_M_walker_B114 N v1 v2 v3 x19 x19 μ20) else (
  f_M_walker_B119 N v1 v2 v3 x19 x19 (1 : Int32) μ20))) else none))
def f_M_walker_B62 (N : Nat)   (v1 : Int32) (v2 : Int32) (v3 : Int32) (μ : Mm) : Option (Int32 × Mm) :=
  f_M_walker_B63 N v1 v2 v3 (0 : Int32) μ
def f_M_walker_B58 (N : Nat)   (v1 : Int32) (v2 : Int32) (v3 : Int32) (μ : Mm) : Option (Int32 × Mm) :=
  f_M_walker_B63 N v1 v2 v3 (1 : Int32) μ
def f_M_walker_B45 (N : Nat)   (v1 : Int32) (v2 : Int32) (v3 : Int32) (μ : Mm) : Option (Int32 × Mm) :=
  if v1 = (3 : Int32) then (
  bn (f_M_isPost N v2 μ) (fun r15 μ14 => 
  if r15 = (0 : Int32) then (
  f_M_walker_B62 N v1 v2 v3 μ14) else (
  f_M_walker_B58 N v1 v2 v3 μ14))) else (
  f_M_walker_B62 N v1 v2 v3 μ)
def f_M_walker_B19 (N : Nat)   (v1 : Int32) (v2 : Int32) (v3 : Int32) (μ : Mm) : Option (Int32 × Mm) :=
  if v1 = (2 : Int32) then (
  bn (f_M_in N v2 ((1 : Int32)) ((6 : Int32)) μ) (fun r8 μ7 => 
  if r8 = (0 : Int32) then (
  f_M_walker_B45 N v1 v2 v3 μ7) else (
  bn (f_M_in N v3 ((1 : Int32)) ((500 : Int32)) μ7) (fun r11 μ10 => 
  if r11 = (0 : Int32) then (
  f_M_walker_B45 N v1 v2 v3 μ10) else (
  f_M_walker_B58 N v1 v2 v3 μ10))))) else (
  f_M_walker_B45 N v1 v2 v3 μ)
def f_M_walker (N : Nat) (a1 : Int32) (a2 : Int32) (a3 : Int32) (μ : Mm) : Option (Int32 × Mm) :=
  if a1 = (0 : Int32) then (
  f_M_walker_B58 N a1 a2 a3 μ) else (
  if a1 = (1 : Int32) then (
  bn (f_M_in N a2 ((1 : Int32)) ((6 : Int32)) μ) (fun r4 μ3 => 
  if r4 = (0 : Int32) then (
  f_M_walker_B19 N a1 a2 a3 μ3) else (
  f_M_walker_B58 N a1 a2 a3 μ3))) else (
  f_M_walker_B19 N a1 a2 a3 μ))
def f_M_isWalker (N : Nat) (a1 : Int32) (μ : Mm) : Option (Int32 × Mm) :=
  bn (f_M_in N a1 ((0 : Int32)) (((μ.1 0 15) - (1 : Int32))) μ) (fun r2 μ1 => 
  if zb r2 = true then some (r2, μ1) else none)
def f_M_need_B12 (N : Nat)    (μ : Mm) : Option (Int32 × Mm) :=
  some ((-1 : Int32), μ)
def f_M_need (N : Nat) (a1 : Int32) (a2 : Int32) (μ : Mm) : Option (Int32 × Mm) :=
  bn (f_M_isWalker N a2 μ) (fun r2 μ1 => 
  if r2 = (0 : Int32) then (
  f_M_need_B12 N μ1) else (
  if a1 = (0 : Int32) then (
  f_M_need_B12 N μ1) else (
  if ixb a2 8 = true then (
  if (μ1.1 16 (a2).toNatClampNeg) = (0 : Int32) then (
  some ((0 : Int32), μ1)) else (
  bn (f_M_meets N ((1 : Int32)) μ1) (fun r7 μ6 => 
  some (r7, μ6)))) else none)))
def f_M_home (N : Nat) (a1 : Int32) (μ : Mm) : Option (Int32 × Mm) :=
  bn (f_M_need N ((1 : Int32)) a1 μ) (fun r2 μ1 => 
  if (0 : Int32) ≤ r2 then (
  if ixb a1 8 = true then (
  let μ4 := sI μ1 16 (a1).toNatClampNeg (vp_nar .boolean (1 : Int32))
  some ((1 : Int32), μ4)) else none) else (
  some (r2, μ1)))
def f_M_view (N : Nat) (a1 : Int32) (a2 : Int32) (μ : Mm) : Option (Int32 × Mm) :=
  bn (f_M_in N a2 ((0 : Int32)) ((40 : Int32)) μ) (fun r2 μ1 => 
  bn (f_M_need N r2 a1 μ1) (fun r4 μ3 => 
  if (0 : Int32) ≤ r4 then (
  if ixb a1 8 = true then (
  let x6 := (μ3.1 14 (a1).toNatClampNeg)
  if ixb a1 8 = true then (
  let μ7 := sI μ3 14 (a1).toNatClampNeg a2
  some (x6, μ7)) else none) else none) else (
  some (r4, μ3))))
def f_M_lose_B27 (N : Nat)   (v1 : Int32) (v2 : Int32) (s0 : Int32) (μ : Mm) : Option (Int32 × Mm) :=
  if ixb v1 8 = true then (
  let μ5 := sI μ 15 (v1).toNatClampNeg (vp_nar .boolean v2)
  some (s0, μ5)) else none
def f_M_lose (N : Nat) (a1 : Int32) (a2 : Int32) (μ : Mm) : Option (Int32 × Mm) :=
  bn (f_M_need N ((1 : Int32)) a1 μ) (fun r2 μ1 => 
  if (0 : Int32) ≤ r2 then (
  if ixb a1 8 = true then (
  if (μ1.1 15 (a1).toNatClampNeg) = (0 : Int32) then (
  f_M_lose_B27 N a1 a2 (0 : Int32) μ1) else (
  f_M_lose_B27 N a1 a2 (1 : Int32) μ1)) else none) else (
  some (r2, μ1)))
def f_M_unitOf (N : Nat) (a1 : Int32) (μ : Mm) : Option (Int32 × Mm) :=
  if ixb a1 8 = true then (
  if (μ.1 10 (a1).toNatClampNeg) = (3 : Int32) then (
  some ((0 : Int32), μ)) else (
  if ixb a1 8 = true then (
  let x2 := (μ.1 11 (a1).toNatClampNeg)
  if x2 = (0 : Int32) then none else (
  some (((60 : Int32) / x2), μ))) else none)) else none
def f_M_post (N : Nat) (a1 : Int32) (a2 : Int32) (μ : Mm) : Option (Int32 × Mm) :=
  let x1 := (((24 : Int32) * a1) + a2)
  if ixb x1 192 = true then (
  some ((μ.1 18 (x1).toNatClampNeg), μ)) else none
def f_M_rest (N : Nat) (a1 : Int32) (a2 : Int32) (μ : Mm) : Option (Int32 × Mm) :=
  let x1 := (((24 : Int32) * a1) + a2)
  if ixb x1 192 = true then (
  some ((μ.1 19 (x1).toNatClampNeg), μ)) else none
def f_M_pair (N : Nat) (a1 : Int32) (a2 : Int32) (μ : Mm) : Option (Int32 × Mm) :=
  bn (f_M_post N a1 a2 μ) (fun r2 μ1 => 
  if ixb a1 8 = true then (
  let x3 := (μ1.1 17 (a1).toNatClampNeg)
  let x4 := (a2 + (1 : Int32))
  if x3 = (0 : Int32) then none else (
  bn (f_M_post N a1 ((x4 - x4 / x3 * x3)) μ1) (fun r6 μ5 => 
  some ((((16 : Int32) * r2) + r6), μ5)))) else none)
def f_M_mostFuel_B112 (N : Nat)  (k13 : Int32 → Int32 → Int32 → Int32 → Mm → Option (Int32 × Mm)) (v1 : Int32) (v2 : Int32) (v3 : Int32) (v4 : Int32) (μ : Mm) : Option (Int32 × Mm) :=
  let x20 := (v4 + (1 : Int32))
  k13 v1 v2 v3 x20 μ
def f_M_mostFuel_B111 (N : Nat)  (k13 : Int32 → Int32 → Int32 → Int32 → Mm → Option (Int32 × Mm)) (v1 : Int32) (v2 : Int32) (v4 : Int32) (s0 : Int32) (μ : Mm) : Option (Int32 × Mm) :=
  f_M_mostFuel_B112 N k13 v1 v2 s0 v4 μ
def f_M_mostFuel_B99 (N : Nat)  (k13 : Int32 → Int32 → Int32 → Int32 → Mm → Option (Int32 × Mm)) (v1 : Int32) (v2 : Int32) (v3 : Int32) (v4 : Int32) (v5 : Int32) (μ : Mm) : Option (Int32 × Mm) :=
  if v5 ≤ v3 then (
  f_M_mostFuel_B111 N k13 v1 v2 v4 v3 μ) else (
  f_M_mostFuel_B111 N k13 v1 v2 v4 v5 μ)
def f_M_mostFuel_L56 (N : Nat)  (k13 : Int32 → Int32 → Int32 → Int32 → Mm → Option (Int32 × Mm)) : Nat → Int32 → Int32 → Int32 → Int32 → Int32 → Int32 → Mm → Option (Int32 × Mm)
  | 0, _, _, _, _, _, _, _ => none
  | n + 1, v1, v2, v3, v4, v5, v6, μ =>
    bn (f_M_post N v1 v6 μ) (fun r12 μ11 => 
    if ixb r12 16 = true then (
    if (μ11.1 8 (r12).toNatClampNeg) = (0 : Int32) then (
    bn (f_M_pair N v1 v6 μ11) (fun r15 μ14 => 
    if ixb r15 256 = true then (
    let x16 := (v5 + (μ14.1 5 (r15).toNatClampNeg))
    let x17 := (v6 + (1 : Int32))
    if v2 = (0 : Int32) then none else (
    let x18 := (x17 - x17 / v2 * v2)
    (f_M_mostFuel_L56 N k13 n) v1 v2 v3 v4 x16 x18 μ14)) else none)) else (
    f_M_mostFuel_B99 N k13 v1 v2 v3 v4 v5 μ11)) else none)
def f_M_mostFuel_L13 (N : Nat)   : Nat → Int32 → Int32 → Int32 → Int32 → Mm → Option (Int32 × Mm)
  | 0, _, _, _, _, _ => none
  | n + 1, v1, v2, v3, v4, μ =>
    if v2 ≤ v4 then (
    some (v3, μ)) else (
    bn (f_M_post N v1 v4 μ) (fun r4 μ3 => 
    if ixb r4 16 = true then (
    if (μ3.1 8 (r4).toNatClampNeg) = (0 : Int32) then (
    f_M_mostFuel_B112 N (f_M_mostFuel_L13 N n) v1 v2 v3 v4 μ3) else (
    bn (f_M_pair N v1 v4 μ3) (fun r7 μ6 => 
    if ixb r7 256 = true then (
    let x8 := (μ6.1 5 (r7).toNatClampNeg)
    let x9 := (v4 + (1 : Int32))
    if v2 = (0 : Int32) then none else (
    let x10 := (x9 - x9 / v2 * v2)
    f_M_mostFuel_L56 N (f_M_mostFuel_L13 N n) N v1 v2 v3 v4 x8 x10 μ6)) else none))) else none))
def f_M_mostFuel (N : Nat) (a1 : Int32) (μ : Mm) : Option (Int32 × Mm) :=
  if ixb a1 8 = true then (
  let x1 := (μ.1 17 (a1).toNatClampNeg)
  f_M_mostFuel_L13 N N a1 x1 (-9 : Int32) (0 : Int32) μ) else none
def f_M_whyNot_B145 (N : Nat)   (v4 : Int32) (μ : Mm) : Option (Int32 × Mm) :=
  if v4 = (0 : Int32) then (
  some ((3 : Int32), μ)) else (
  some ((4 : Int32), μ))
def f_M_whyNot_B135 (N : Nat)   (v1 : Int32) (v4 : Int32) (v5 : Int32) (μ : Mm) : Option (Int32 × Mm) :=
  if v4 = (0 : Int32) then (
  f_M_whyNot_B145 N v4 μ) else (
  if v5 = (0 : Int32) then (
  f_M_whyNot_B145 N v4 μ) else (
  if ixb v1 8 = true then (
  if (μ.1 10 (v1).toNatClampNeg) = (2 : Int32) then (
  bn (f_M_mostFuel N v1 μ) (fun r26 μ25 => 
  if r26 = (-9 : Int32) then (
  some ((5 : Int32), μ25)) else (
  if ixb v1 8 = true then (
  if r26 ≤ (μ25.1 12 (v1).toNatClampNeg) then (
  some ((0 : Int32), μ25)) else (
  some ((6 : Int32), μ25))) else none))) else (
  some ((0 : Int32), μ))) else none))
def f_M_whyNot_B127 (N : Nat)  (k69 : Int32 → Int32 → Int32 → Int32 → Int32 → Mm → Option (Int32 × Mm)) (v1 : Int32) (v2 : Int32) (v4 : Int32) (v6 : Int32) (s0 : Int32) (μ : Mm) : Option (Int32 × Mm) :=
  let x21 := (v6 + (1 : Int32))
  k69 v1 v2 v4 s0 x21 μ
def f_M_whyNot_B126 (N : Nat)  (k69 : Int32 → Int32 → Int32 → Int32 → Int32 → Mm → Option (Int32 × Mm)) (v1 : Int32) (v2 : Int32) (v4 : Int32) (v6 : Int32) (μ : Mm) : Option (Int32 × Mm) :=
  f_M_whyNot_B127 N k69 v1 v2 v4 v6 (0 : Int32) μ
def f_M_whyNot_B100 (N : Nat)  (k69 : Int32 → Int32 → Int32 → Int32 → Int32 → Mm → Option (Int32 × Mm)) (v1 : Int32) (v2 : Int32) (v5 : Int32) (v6 : Int32) (s0 : Int32) (μ : Mm) : Option (Int32 × Mm) :=
  if v5 = (0 : Int32) then (
  f_M_whyNot_B126 N k69 v1 v2 s0 v6 μ) else (
  bn (f_M_pair N v1 v6 μ) (fun r19 μ18 => 
  if ixb r19 256 = true then (
  if (μ18.1 6 (r19).toNatClampNeg) = (0 : Int32) then (
  f_M_whyNot_B127 N k69 v1 v2 s0 v6 (1 : Int32) μ18) else (
  f_M_whyNot_B126 N k69 v1 v2 s0 v6 μ18)) else none))
def f_M_whyNot_B99 (N : Nat)  (k69 : Int32 → Int32 → Int32 → Int32 → Int32 → Mm → Option (Int32 × Mm)) (v1 : Int32) (v2 : Int32) (v5 : Int32) (v6 : Int32) (μ : Mm) : Option (Int32 × Mm) :=
  f_M_whyNot_B100 N k69 v1 v2 v5 v6 (0 : Int32) μ
def f_M_whyNot_L69 (N : Nat)   : Nat → Int32 → Int32 → Int32 → Int32 → Int32 → Mm → Option (Int32 × Mm)
  | 0, _, _, _, _, _, _ => none
  | n + 1, v1, v2, v4, v5, v6, μ =>
    if v2 ≤ v6 then (
    f_M_whyNot_B135 N v1 v4 v5 μ) else (
    if v4 = (0 : Int32) then (
    f_M_whyNot_B99 N (f_M_whyNot_L69 N n) v1 v2 v5 v6 μ) else (
    bn (f_M_pair N v1 v6 μ) (fun r15 μ14 => 
    if ixb r15 256 = true then (
    if (μ14.1 5 (r15).toNatClampNeg) ≤ (0 : Int32) then (
    f_M_whyNot_B99 N (f_M_whyNot_L69 N n) v1 v2 v5 v6 μ14) else (
    f_M_whyNot_B100 N (f_M_whyNot_L69 N n) v1 v2 v5 v6 (1 : Int32) μ14)) else none)))
def f_M_whyNot_B54 (N : Nat)   (v1 : Int32) (v2 : Int32) (v3 : Int32) (μ : Mm) : Option (Int32 × Mm) :=
  if v3 = (0 : Int32) then (
  some ((2 : Int32), μ)) else (
  f_M_whyNot_L69 N N v1 v2 (1 : Int32) (1 : Int32) (0 : Int32) μ)
def f_M_whyNot_B47 (N : Nat)  (k18 : Int32 → Int32 → Int32 → Int32 → Mm → Option (Int32 × Mm)) (v1 : Int32) (v2 : Int32) (v4 : Int32) (s0 : Int32) (μ : Mm) : Option (Int32 × Mm) :=
  let x10 := (v4 + (1 : Int32))
  k18 v1 v2 s0 x10 μ
def f_M_whyNot_B46 (N : Nat)  (k18 : Int32 → Int32 → Int32 → Int32 → Mm → Option (Int32 × Mm)) (v1 : Int32) (v2 : Int32) (v4 : Int32) (μ : Mm) : Option (Int32 × Mm) :=
  f_M_whyNot_B47 N k18 v1 v2 v4 (0 : Int32) μ
def f_M_whyNot_L18 (N : Nat)   : Nat → Int32 → Int32 → Int32 → Int32 → Mm → Option (Int32 × Mm)
  | 0, _, _, _, _, _ => none
  | n + 1, v1, v2, v3, v4, μ =>
    if v2 ≤ v4 then (
    f_M_whyNot_B54 N v1 v2 v3 μ) else (
    if v3 = (0 : Int32) then (
    f_M_whyNot_B46 N (f_M_whyNot_L18 N n) v1 v2 v4 μ) else (
    bn (f_M_post N v1 v4 μ) (fun r6 μ5 => 
    bn (f_M_isPost N r6 μ5) (fun r8 μ7 => 
    if r8 = (0 : Int32) then (
    f_M_whyNot_B46 N (f_M_whyNot_L18 N n) v1 v2 v4 μ7) else (
    f_M_whyNot_B47 N (f_M_whyNot_L18 N n) v1 v2 v4 (1 : Int32) μ7)))))
def f_M_whyNot (N : Nat) (a1 : Int32) (μ : Mm) : Option (Int32 × Mm) :=
  if ixb a1 8 = true then (
  let x1 := (μ.1 17 (a1).toNatClampNeg)
  if x1 = (0 : Int32) then (
  some ((1 : Int32), μ)) else (
  f_M_whyNot_L18 N N a1 x1 (1 : Int32) (0 : Int32) μ)) else none
def f_M_goes (N : Nat) (a1 : Int32) (μ : Mm) : Option (Int32 × Mm) :=
  if ixb a1 8 = true then (
  if (μ.1 16 (a1).toNatClampNeg) = (0 : Int32) then (
  if ixb a1 8 = true then (
  if (μ.1 15 (a1).toNatClampNeg) = (0 : Int32) then (
  if (((μ.1 0 27) >>> (a1 &&& 31)) &&& (1 : Int32)) = (1 : Int32) then (
  some ((0 : Int32), μ)) else (
  if ixb a1 8 = true then (
  if (μ.1 10 (a1).toNatClampNeg) = (3 : Int32) then (
  if ixb a1 8 = true then (
  bn (f_M_isPost N ((μ.1 13 (a1).toNatClampNeg)) μ) (fun r6 μ5 => 
  if zb r6 = true then some (r6, μ5) else none)) else none) else (
  bn (f_M_whyNot N a1 μ) (fun r8 μ7 => 
  if r8 = (0 : Int32) then (
  some ((1 : Int32), μ7)) else (
  some ((0 : Int32), μ7))))) else none)) else (
  some ((0 : Int32), μ))) else none) else (
  some ((0 : Int32), μ))) else none
def f_M_periodOf_L16 (N : Nat)   : Nat → Int32 → Int32 → Int32 → Mm → Option (Int32 × Mm)
  | 0, _, _, _, _ => none
  | n + 1, v1, v2, v3, μ =>
    if ixb v1 8 = true then (
    if (μ.1 17 (v1).toNatClampNeg) ≤ v3 then (
    some (v2, μ)) else (
    bn (f_M_rest N v1 v3 μ) (fun r4 μ3 => 
    bn (f_M_pair N v1 v3 μ3) (fun r6 μ5 => 
    if ixb r6 256 = true then (
    bn (f_M_unitOf N v1 μ5) (fun r8 μ7 => 
    let x9 := (v2 + (r4 + ((μ5.1 5 (r6).toNatClampNeg) * r8)))
    let x10 := (v3 + (1 : Int32))
    (f_M_periodOf_L16 N n) v1 x9 x10 μ7)) else none)))) else none
def f_M_periodOf (N : Nat) (a1 : Int32) (μ : Mm) : Option (Int32 × Mm) :=
  if ixb a1 8 = true then (
  if (μ.1 10 (a1).toNatClampNeg) = (3 : Int32) then (
  some ((1 : Int32), μ)) else (
  f_M_periodOf_L16 N N a1 (0 : Int32) (0 : Int32) μ)) else none
def f_M_toldOf (N : Nat) (a1 : Int32) (a2 : Int32) (μ : Mm) : Option (Int32 × Mm) :=
  if a2 = (0 : Int32) then (
  if ixb a1 8 = true then (
  some ((μ.1 10 (a1).toNatClampNeg), μ)) else none) else if a2 = (1 : Int32) then (
  bn (f_M_unitOf N a1 μ) (fun r2 μ1 => 
  some (r2, μ1))) else if a2 = (2 : Int32) then (
  if ixb a1 8 = true then (
  some ((μ.1 14 (a1).toNatClampNeg), μ)) else none) else if a2 = (3 : Int32) then (
  if ixb a1 8 = true then (
  if (μ.1 15 (a1).toNatClampNeg) = (0 : Int32) then (
  some ((0 : Int32), μ)) else (
  some ((1 : Int32), μ))) else none) else if a2 = (4 : Int32) then (
  if ixb a1 8 = true then (
  some ((μ.1 17 (a1).toNatClampNeg), μ)) else none) else if a2 = (5 : Int32) then (
  bn (f_M_goes N a1 μ) (fun r5 μ4 => 
  if r5 = (0 : Int32) then (
  some ((0 : Int32), μ4)) else (
  some ((1 : Int32), μ4)))) else (
  bn (f_M_goes N a1 μ) (fun r8 μ7 => 
  if r8 = (0 : Int32) then (
  some ((-9 : Int32), μ7)) else (
  bn (f_M_periodOf N a1 μ7) (fun r11 μ10 => 
  some (r11, μ10)))))
def f_M_told (N : Nat) (a1 : Int32) (a2 : Int32) (μ : Mm) : Option (Int32 × Mm) :=
  bn (f_M_in N a2 ((0 : Int32)) ((6 : Int32)) μ) (fun r2 μ1 => 
  bn (f_M_need N r2 a1 μ1) (fun r4 μ3 => 
  if (0 : Int32) ≤ r4 then (
  bn (f_M_toldOf N a1 a2 μ3) (fun r7 μ6 => 
  some (r7, μ6))) else (
  some (r4, μ3))))
def f_M_mark_B52 (N : Nat)   (v1 : Int32) (v2 : Int32) (s0 : Int32) (μ : Mm) : Option (Int32 × Mm) :=
  if s0 = (0 : Int32) then (
  bn (f_M_meets N ((3 : Int32)) μ) (fun r12 μ11 => 
  some (r12, μ11))) else (
  if v2 = (0 : Int32) then (
  if ixb v1 8 = true then (
  some ((μ.1 20 (v1).toNatClampNeg), μ)) else none) else (
  if v2 = (1 : Int32) then (
  if ixb v1 8 = true then (
  some ((μ.1 11 (v1).toNatClampNeg), μ)) else none) else (
  if v2 = (2 : Int32) then (
  if ixb v1 8 = true then (
  some ((μ.1 12 (v1).toNatClampNeg), μ)) else none) else (
  if ixb v1 8 = true then (
  some ((μ.1 13 (v1).toNatClampNeg), μ)) else none))))
def f_M_mark_B51 (N : Nat)   (v1 : Int32) (v2 : Int32) (μ : Mm) : Option (Int32 × Mm) :=
  f_M_mark_B52 N v1 v2 (0 : Int32) μ
def f_M_mark_B47 (N : Nat)   (v1 : Int32) (v2 : Int32) (μ : Mm) : Option (Int32 × Mm) :=
  f_M_mark_B52 N v1 v2 (1 : Int32) μ
def f_M_mark (N : Nat) (a1 : Int32) (a2 : Int32) (μ : Mm) : Option (Int32 × Mm) :=
  bn (f_M_in N a2 ((0 : Int32)) ((3 : Int32)) μ) (fun r2 μ1 => 
  bn (f_M_need N r2 a1 μ1) (fun r4 μ3 => 
  if (0 : Int32) ≤ r4 then (
  if a2 = (0 : Int32) then (
  f_M_mark_B47 N a1 a2 μ3) else (
  if ixb a1 8 = true then (
  if (μ3.1 10 (a1).toNatClampNeg) = a2 then (
  f_M_mark_B47 N a1 a2 μ3) else (
  if a2 = (1 : Int32) then (
  if ixb a1 8 = true then (
  if (μ3.1 10 (a1).toNatClampNeg) = (2 : Int32) then (
  f_M_mark_B47 N a1 a2 μ3) else (
  f_M_mark_B51 N a1 a2 μ3)) else none) else (
  f_M_mark_B51 N a1 a2 μ3))) else none)) else (
  some (r4, μ3))))
def f_M_plan_B290 (N : Nat)   (v1 : Int32) (v4 : Int32) (v5 : Int32) (μ : Mm) : Option (Int32 × Mm) :=
  if ixb v1 8 = true then (
  let μ56 := sI μ 17 (v1).toNatClampNeg v5
  if ixb v1 8 = true then (
  let μ57 := sI μ56 20 (v1).toNatClampNeg v4
  some (v5, μ57)) else none) else none
def f_M_plan_B283 (N : Nat)  (k205 : Int32 → Int32 → Int32 → Int32 → Int32 → Int32 → Mm → Option (Int32 × Mm)) (v1 : Int32) (v2 : Int32) (v3 : Int32) (v4 : Int32) (v5 : Int32) (v7 : Int32) (s1 : Int32) (s2 : Int32) (μ : Mm) : Option (Int32 × Mm) :=
  if ixb s1 192 = true then (
  let μ54 := sI μ 19 (s1).toNatClampNeg s2
  let x55 := (v7 + (1 : Int32))
  k205 v1 v2 v3 v4 v5 x55 μ54) else none
def f_M_plan_B240 (N : Nat)  (k205 : Int32 → Int32 → Int32 → Int32 → Int32 → Int32 → Mm → Option (Int32 × Mm)) (v1 : Int32) (v2 : Int32) (v3 : Int32) (v4 : Int32) (v5 : Int32) (v7 : Int32) (s0 : Int32) (μ : Mm) : Option (Int32 × Mm) :=
  bn (f_M_at N v2 v7 μ) (fun r50 μ49 => 
  let x51 := (((24 : Int32) * v1) + v7)
  if ixb x51 192 = true then (
  let μ52 := sI μ49 18 (x51).toNatClampNeg r50
  if (0 : Int32) ≤ s0 then (
  f_M_plan_B283 N k205 v1 v2 v3 v4 v5 v7 (((24 : Int32) * v1) + v7) s0 μ52) else (
  f_M_plan_B283 N k205 v1 v2 v3 v4 v5 v7 (((24 : Int32) * v1) + v7) (0 : Int32) μ52)) else none)
def f_M_plan_B229 (N : Nat)  (k205 : Int32 → Int32 → Int32 → Int32 → Int32 → Int32 → Mm → Option (Int32 × Mm)) (v1 : Int32) (v2 : Int32) (v3 : Int32) (v4 : Int32) (v5 : Int32) (v7 : Int32) (μ : Mm) : Option (Int32 × Mm) :=
  f_M_plan_B240 N k205 v1 v2 v3 v4 v5 v7 (0 : Int32) μ
def f_M_plan_L205 (N : Nat)   : Nat → Int32 → Int32 → Int32 → Int32 → Int32 → Int32 → Mm → Option (Int32 × Mm)
  | 0, _, _, _, _, _, _, _ => none
  | n + 1, v1, v2, v3, v4, v5, v7, μ =>
    if v5 ≤ v7 then (
    f_M_plan_B290 N v1 v4 v5 μ) else (
    if v3 = (-9 : Int32) then (
    f_M_plan_B229 N (f_M_plan_L205 N n) v1 v2 v3 v4 v5 v7 μ) else (
    if ixb v3 8 = true then (
    if v7 < (μ.1 2 (v3).toNatClampNeg) then (
    bn (f_M_at N v3 v7 μ) (fun r48 μ47 => 
    f_M_plan_B240 N (f_M_plan_L205 N n) v1 v2 v3 v4 v5 v7 r48 μ47)) else (
    f_M_plan_B229 N (f_M_plan_L205 N n) v1 v2 v3 v4 v5 v7 μ)) else none))
def f_M_plan_B191 (N : Nat)   (v1 : Int32) (v2 : Int32) (v3 : Int32) (v4 : Int32) (v5 : Int32) (v6 : Int32) (μ : Mm) : Option (Int32 × Mm) :=
  if v6 = (0 : Int32) then (
  bn (f_M_meets N ((2 : Int32)) μ) (fun r43 μ42 => 
  some (r43, μ42))) else (
  f_M_plan_L205 N N v1 v2 v3 v4 v5 (0 : Int32) μ)
def f_M_plan_B183 (N : Nat)  (k128 : Int32 → Int32 → Int32 → Int32 → Int32 → Int32 → Int32 → Mm → Option (Int32 × Mm)) (v1 : Int32) (v2 : Int32) (v3 : Int32) (v4 : Int32) (v5 : Int32) (v7 : Int32) (s0 : Int32) (μ : Mm) : Option (Int32 × Mm) :=
  let x40 := (v7 + (1 : Int32))
  k128 v1 v2 v3 v4 v5 s0 x40 μ
def f_M_plan_B182 (N : Nat)  (k128 : Int32 → Int32 → Int32 → Int32 → Int32 → Int32 → Int32 → Mm → Option (Int32 × Mm)) (v1 : Int32) (v2 : Int32) (v3 : Int32) (v4 : Int32) (v5 : Int32) (v7 : Int32) (μ : Mm) : Option (Int32 × Mm) :=
  f_M_plan_B183 N k128 v1 v2 v3 v4 v5 v7 (0 : Int32) μ
def f_M_plan_L128 (N : Nat)   : Nat → Int32 → Int32 → Int32 → Int32 → Int32 → Int32 → Int32 → Mm → Option (Int32 × Mm)
  | 0, _, _, _, _, _, _, _, _ => none
  | n + 1, v1, v2, v3, v4, v5, v6, v7, μ =>
    if v5 ≤ v7 then (
    f_M_plan_B191 N v1 v2 v3 v4 v5 v6 μ) else (
    if v6 = (0 : Int32) then (
    f_M_plan_B182 N (f_M_plan_L128 N n) v1 v2 v3 v4 v5 v7 μ) else (
    bn (f_M_at N v2 v7 μ) (fun r30 μ29 => 
    bn (f_M_in N r30 ((0 : Int32)) ((15 : Int32)) μ29) (fun r32 μ31 => 
    if r32 = (0 : Int32) then (
    f_M_plan_B182 N (f_M_plan_L128 N n) v1 v2 v3 v4 v5 v7 μ31) else (
    bn (f_M_at N v2 v7 μ31) (fun r35 μ34 => 
    let x36 := (v7 + (1 : Int32))
    if v5 = (0 : Int32) then none else (
    bn (f_M_at N v2 ((x36 - x36 / v5 * v5)) μ34) (fun r38 μ37 => 
    if r35 = r38 then (
    f_M_plan_B182 N (f_M_plan_L128 N n) v1 v2 v3 v4 v5 v7 μ37) else (
    f_M_plan_B183 N (f_M_plan_L128 N n) v1 v2 v3 v4 v5 v7 (1 : Int32) μ37)))))))))
def f_M_plan_B81 (N : Nat)   (v1 : Int32) (v2 : Int32) (v3 : Int32) (v4 : Int32) (μ : Mm) : Option (Int32 × Mm) :=
  if ixb v1 8 = true then (
  if (μ.1 10 (v1).toNatClampNeg) = (3 : Int32) then (
  bn (f_M_meets N ((3 : Int32)) μ) (fun r20 μ19 => 
  some (r20, μ19))) else (
  if ixb v2 8 = true then (
  let x21 := (μ.1 2 (v2).toNatClampNeg)
  bn (f_M_in N x21 ((2 : Int32)) ((24 : Int32)) μ) (fun r23 μ22 => 
  if r23 = (0 : Int32) then (
  bn (f_M_meets N ((5 : Int32)) μ22) (fun r26 μ25 => 
  some (r26, μ25))) else (
  f_M_plan_L128 N N v1 v2 v3 v4 x21 (1 : Int32) (0 : Int32) μ22))) else none)) else none
def f_M_plan_B75 (N : Nat)    (μ : Mm) : Option (Int32 × Mm) :=
  bn (f_M_meets N ((1 : Int32)) μ) (fun r59 μ58 => 
  some (r59, μ58))
def f_M_plan_B28 (N : Nat)   (v1 : Int32) (v2 : Int32) (v3 : Int32) (v4 : Int32) (μ : Mm) : Option (Int32 × Mm) :=
  bn (f_M_in N v4 ((0 : Int32)) ((14399 : Int32)) μ) (fun r12 μ11 => 
  if r12 = (0 : Int32) then (
  some ((-1 : Int32), μ11)) else (
  if ixb v1 8 = true then (
  if (μ11.1 16 (v1).toNatClampNeg) = (0 : Int32) then (
  if ixb v2 8 = true then (
  if (μ11.1 2 (v2).toNatClampNeg) < (0 : Int32) then (
  f_M_plan_B75 N μ11) else (
  if v3 = (-9 : Int32) then (
  f_M_plan_B81 N v1 v2 v3 v4 μ11) else (
  if ixb v3 8 = true then (
  if (0 : Int32) ≤ (μ11.1 2 (v3).toNatClampNeg) then (
  f_M_plan_B81 N v1 v2 v3 v4 μ11) else (
  f_M_plan_B75 N μ11)) else none))) else none) else (
  f_M_plan_B75 N μ11)) else none))
def f_M_plan (N : Nat) (a1 : Int32) (a2 : Int32) (a3 : Int32) (a4 : Int32) (μ : Mm) : Option (Int32 × Mm) :=
  bn (f_M_isWalker N a1 μ) (fun r2 μ1 => 
  if r2 = (0 : Int32) then (
  some ((-1 : Int32), μ1)) else (
  bn (f_M_isRow N a2 μ1) (fun r5 μ4 => 
  if r5 = (0 : Int32) then (
  some ((-1 : Int32), μ4)) else (
  if a3 = (-9 : Int32) then (
  f_M_plan_B28 N a1 a2 a3 a4 μ4) else (
  bn (f_M_isRow N a3 μ4) (fun r9 μ8 => 
  if r9 = (0 : Int32) then (
  some ((-1 : Int32), μ8)) else (
  f_M_plan_B28 N a1 a2 a3 a4 μ8)))))))
def f_M_unplan (N : Nat) (a1 : Int32) (μ : Mm) : Option (Int32 × Mm) :=
  bn (f_M_need N ((1 : Int32)) a1 μ) (fun r2 μ1 => 
  if (0 : Int32) ≤ r2 then (
  if ixb a1 8 = true then (
  let x4 := (μ1.1 17 (a1).toNatClampNeg)
  if ixb a1 8 = true then (
  let μ5 := sI μ1 17 (a1).toNatClampNeg (0 : Int32)
  if ixb a1 8 = true then (
  let μ6 := sI μ5 20 (a1).toNatClampNeg (-9 : Int32)
  some (x4, μ6)) else none) else none) else none) else (
  some (r2, μ1)))
def f_M_planned (N : Nat) (a1 : Int32) (a2 : Int32) (a3 : Int32) (μ : Mm) : Option (Int32 × Mm) :=
  bn (f_M_need N ((1 : Int32)) a1 μ) (fun r2 μ1 => 
  if (0 : Int32) ≤ r2 then (
  if ixb a1 8 = true then (
  bn (f_M_in N a2 ((0 : Int32)) (((μ1.1 17 (a1).toNatClampNeg) - (1 : Int32))) μ1) (fun r5 μ4 => 
  if r5 = (0 : Int32) then (
  bn (f_M_meets N ((2 : Int32)) μ4) (fun r8 μ7 => 
  some (r8, μ7))) else (
  if a3 = (0 : Int32) then (
  bn (f_M_post N a1 a2 μ4) (fun r11 μ10 => 
  some (r11, μ10))) else (
  bn (f_M_rest N a1 a2 μ4) (fun r13 μ12 => 
  some (r13, μ12)))))) else none) else (
  some (r2, μ1)))
def f_M_fit (N : Nat) (a1 : Int32) (μ : Mm) : Option (Int32 × Mm) :=
  bn (f_M_need N ((1 : Int32)) a1 μ) (fun r2 μ1 => 
  if (0 : Int32) ≤ r2 then (
  bn (f_M_whyNot N a1 μ1) (fun r5 μ4 => 
  some (r5, μ4))) else (
  some (r2, μ1)))
def f_M_find_B211 (N : Nat)  (k76 : Int32 → Int32 → Int32 → Int32 → Mm → Option Mm) (v1 : Int32) (v4 : Int32) (v5 : Int32) (v6 : Int32) (μ : Mm) : Option Mm :=
  k76 v1 v4 v5 v6 μ
def f_M_find_L76 (N : Nat)   : Nat → Int32 → Int32 → Int32 → Int32 → Mm → Option Mm
  | 0, _, _, _, _, _ => none
  | n + 1, v1, v4, v5, v6, μ =>
    if v6 = (0 : Int32) then (
    bn (f_M_pair N v1 v5 μ) (fun r12 μ11 => 
    if ixb r12 256 = true then (
    bn (f_M_unitOf N v1 μ11) (fun r14 μ13 => 
    let x15 := ((μ11.1 5 (r12).toNatClampNeg) * r14)
    bn (f_M_post N v1 v5 μ13) (fun r17 μ16 => 
    let μ18 := sI μ16 0 28 r17
    bn (f_M_rest N v1 v5 μ18) (fun r20 μ19 => 
    if r20 < v4 then (
    bn (f_M_rest N v1 v5 μ19) (fun r23 μ22 => 
    if (r23 + x15) ≤ v4 then (
    bn (f_M_rest N v1 v5 μ22) (fun r26 μ25 => 
    let x27 := (v4 - (r26 + x15))
    let x28 := (v5 + (1 : Int32))
    f_M_find_B211 N (f_M_find_L76 N n) v1 x27 x28 v6 μ25)) else (
    if ixb v1 8 = true then (
    let x29 := (μ22.1 17 (v1).toNatClampNeg)
    let x30 := (v5 + (1 : Int32))
    if x29 = (0 : Int32) then none else (
    bn (f_M_post N v1 ((x30 - x30 / x29 * x29)) μ22) (fun r32 μ31 => 
    let μ33 := sI μ31 0 29 r32
    bn (f_M_rest N v1 v5 μ33) (fun r35 μ34 => 
    let μ36 := sI μ34 0 30 (v4 - r35)
    f_M_find_B211 N (f_M_find_L76 N n) v1 v4 v5 (1 : Int32) μ36)))) else none))) else (
    let μ37 := sI μ19 0 29 (μ19.1 0 28)
    f_M_find_B211 N (f_M_find_L76 N n) v1 v4 v5 (1 : Int32) μ37))))) else none)) else (
    some μ)
def f_M_find_B68 (N : Nat)   (v1 : Int32) (s0 : Int32) (μ : Mm) : Option Mm :=
  f_M_find_L76 N N v1 s0 (0 : Int32) (0 : Int32) μ
def f_M_find (N : Nat) (a1 : Int32) (a2 : Int32) (μ : Mm) : Option Mm :=
  let μ1 := sI μ 0 30 (0 : Int32)
  if ixb a1 8 = true then (
  if (μ1.1 10 (a1).toNatClampNeg) = (3 : Int32) then (
  if ixb a1 8 = true then (
  let μ3 := sI μ1 0 28 (μ1.1 13 (a1).toNatClampNeg)
  if ixb a1 8 = true then (
  let μ4 := sI μ3 0 29 (μ3.1 13 (a1).toNatClampNeg)
  some μ4) else none) else none) else (
  bn (f_M_periodOf N a1 μ1) (fun r6 μ5 => 
  if ixb a1 8 = true then (
  let x7 := (a2 - (μ5.1 20 (a1).toNatClampNeg))
  if r6 = (0 : Int32) then none else (
  let x8 := (x7 - x7 / r6 * r6)
  if (0 : Int32) ≤ x8 then (
  f_M_find_B68 N a1 x8 μ5) else (
  f_M_find_B68 N a1 (x8 + r6) μ5))) else none))) else none
def f_M_where_B25 (N : Nat)   (v1 : Int32) (v2 : Int32) (v3 : Int32) (s1 : Int32) (μ : Mm) : Option (Int32 × Mm) :=
  bn (f_M_need N s1 v1 μ) (fun r8 μ7 => 
  if (0 : Int32) ≤ r8 then (
  bn (f_M_goes N v1 μ7) (fun r11 μ10 => 
  if r11 = (0 : Int32) then (
  some ((-4 : Int32), μ10)) else (
  bv (f_M_find N v1 v2 μ10) (fun μ13 => 
  if v3 = (0 : Int32) then (
  some ((μ13.1 0 28), μ13)) else (
  if v3 = (1 : Int32) then (
  some ((μ13.1 0 29), μ13)) else (
  some ((μ13.1 0 30), μ13))))))) else (
  some (r8, μ7)))
def f_M_where_B24 (N : Nat)   (v1 : Int32) (v2 : Int32) (v3 : Int32) (μ : Mm) : Option (Int32 × Mm) :=
  f_M_where_B25 N v1 v2 v3 (0 : Int32) μ
def f_M_where (N : Nat) (a1 : Int32) (a2 : Int32) (a3 : Int32) (μ : Mm) : Option (Int32 × Mm) :=
  bn (f_M_in N a2 ((0 : Int32)) ((100000 : Int32)) μ) (fun r2 μ1 => 
  if r2 = (0 : Int32) then (
  f_M_where_B24 N a1 a2 a3 μ1) else (
  bn (f_M_in N a3 ((0 : Int32)) ((2 : Int32)) μ1) (fun r5 μ4 => 
  if r5 = (0 : Int32) then (
  f_M_where_B24 N a1 a2 a3 μ4) else (
  f_M_where_B25 N a1 a2 a3 (1 : Int32) μ4))))
def f_M_layJoint_B70 (N : Nat)   (v1 : Int64) (s1 : Int32) (μ : Mm) : Option (Int32 × Mm) :=
  let μ13 := sI μ 0 31 s1
  if (0 : Int32) < (lg_cmp v1 (14400 : Int64)) then (
  some ((0 : Int32), μ13)) else (
  some ((1 : Int32), μ13))
def f_M_layJoint_B55 (N : Nat)   (v1 : Int64) (μ : Mm) : Option (Int32 × Mm) :=
  if (lg_cmp v1 (14400 : Int64)) ≤ (0 : Int32) then (
  f_M_layJoint_B70 N v1 (v1).toInt32 μ) else (
  f_M_layJoint_B70 N v1 (0 : Int32) μ)
def f_M_layJoint_B49 (N : Nat)  (k4 : Int64 → Int32 → Mm → Option (Int32 × Mm)) (v1 : Int64) (v3 : Int32) (μ : Mm) : Option (Int32 × Mm) :=
  let x11 := (v3 + (1 : Int32))
  k4 v1 x11 μ
def f_M_layJoint_L4 (N : Nat)   : Nat → Int64 → Int32 → Mm → Option (Int32 × Mm)
  | 0, _, _, _ => none
  | n + 1, v1, v3, μ =>
    if (μ.1 0 15) ≤ v3 then (
    f_M_layJoint_B55 N v1 μ) else (
    if (0 : Int32) < (lg_cmp v1 (14400 : Int64)) then (
    f_M_layJoint_B55 N v1 μ) else (
    bn (f_M_goes N v3 μ) (fun r4 μ3 => 
    if r4 = (0 : Int32) then (
    f_M_layJoint_B49 N (f_M_layJoint_L4 N n) v1 v3 μ3) else (
    bn (f_M_periodOf N v3 μ3) (fun r7 μ6 => 
    bn (f_M_gcd N v1 (((r7).toInt64)) μ6) (fun r9 μ8 => 
    if r9 = (0 : Int64) then none else (
    let x10 := ((v1 / r9) * (r7).toInt64)
    f_M_layJoint_B49 N (f_M_layJoint_L4 N n) x10 v3 μ8)))))))
def f_M_layJoint (N : Nat)  (μ : Mm) : Option (Int32 × Mm) :=
  f_M_layJoint_L4 N N (1 : Int64) (0 : Int32) μ
def f_M_viewFrom_B44 (N : Nat)  (k5 : Int32 → Int32 → Int32 → Int32 → Mm → Option (Int32 × Mm)) (v1 : Int32) (v2 : Int32) (v4 : Int32) (s0 : Int32) (s1 : Int32) (μ : Mm) : Option (Int32 × Mm) :=
  let x4 := (s0 ||| s1)
  let x5 := (v4 + (1 : Int32))
  k5 v1 v2 x4 x5 μ
def f_M_viewFrom_L5 (N : Nat)   : Nat → Int32 → Int32 → Int32 → Int32 → Mm → Option (Int32 × Mm)
  | 0, _, _, _, _, _ => none
  | n + 1, v1, v2, v3, v4, μ =>
    if (μ.1 0 9) ≤ v4 then (
    some (v3, μ)) else (
    let x2 := (((16 : Int32) * v2) + v4)
    if ixb x2 256 = true then (
    if ixb v1 8 = true then (
    if (μ.1 14 (v1).toNatClampNeg) < (μ.1 9 (x2).toNatClampNeg) then (
    f_M_viewFrom_B44 N (f_M_viewFrom_L5 N n) v1 v2 v4 v3 (0 : Int32) μ) else (
    f_M_viewFrom_B44 N (f_M_viewFrom_L5 N n) v1 v2 v4 v3 ((1 : Int32) <<< (v4 &&& 31)) μ)) else none) else none)
def f_M_viewFrom (N : Nat) (a1 : Int32) (a2 : Int32) (μ : Mm) : Option (Int32 × Mm) :=
  f_M_viewFrom_L5 N N a1 a2 (0 : Int32) (0 : Int32) μ
def f_M_lookOut_B149 (N : Nat)  (k65 : Int32 → Int32 → Int32 → Int32 → Mm → Option Mm) (v1 : Int32) (v2 : Int32) (v3 : Int32) (v4 : Int32) (μ : Mm) : Option Mm :=
  bn (f_M_rest N v1 v4 μ) (fun r22 μ21 => 
  bn (f_M_pair N v1 v4 μ21) (fun r24 μ23 => 
  if ixb r24 256 = true then (
  bn (f_M_unitOf N v1 μ23) (fun r26 μ25 => 
  let x27 := (v3 + (r22 + ((μ23.1 5 (r24).toNatClampNeg) * r26)))
  let x28 := (v4 + (1 : Int32))
  k65 v1 v2 x27 x28 μ25)) else none))
def f_M_lookOut_B143 (N : Nat)  (k65 : Int32 → Int32 → Int32 → Int32 → Mm → Option Mm) (k93 : Int32 → Int32 → Int32 → Int32 → Int32 → Int32 → Mm → Option Mm) (v1 : Int32) (v2 : Int32) (v3 : Int32) (v4 : Int32) (v5 : Int32) (v6 : Int32) (μ : Mm) : Option Mm :=
  let x20 := (v6 + (1 : Int32))
  k93 v1 v2 v3 v4 v5 x20 μ
def f_M_lookOut_L113 (N : Nat)  (k65 : Int32 → Int32 → Int32 → Int32 → Mm → Option Mm) (k93 : Int32 → Int32 → Int32 → Int32 → Int32 → Int32 → Mm → Option Mm) : Nat → Int32 → Int32 → Int32 → Int32 → Int32 → Int32 → Int32 → Mm → Option Mm
  | 0, _, _, _, _, _, _, _, _ => none
  | n + 1, v1, v2, v3, v4, v5, v6, v7, μ =>
    if (μ.1 0 31) ≤ v7 then (
    f_M_lookOut_B143 N k65 k93 v1 v2 v3 v4 v5 v6 μ) else (
    if ixb v7 14400 = true then (
    let x17 := ((μ.1 21 (v7).toNatClampNeg) ||| v5)
    if ixb v7 14400 = true then (
    let μ18 := sI μ 21 (v7).toNatClampNeg x17
    let x19 := (v7 + v2)
    (f_M_lookOut_L113 N k65 k93 n) v1 v2 v3 v4 v5 v6 x19 μ18) else none) else none)
def f_M_lookOut_L93 (N : Nat)  (k65 : Int32 → Int32 → Int32 → Int32 → Mm → Option Mm) : Nat → Int32 → Int32 → Int32 → Int32 → Int32 → Int32 → Mm → Option Mm
  | 0, _, _, _, _, _, _, _ => none
  | n + 1, v1, v2, v3, v4, v5, v6, μ =>
    bn (f_M_rest N v1 v4 μ) (fun r12 μ11 => 
    if r12 < v6 then (
    f_M_lookOut_B149 N k65 v1 v2 v3 v4 μ11) else (
    let x14 := (v3 + v6)
    if v2 = (0 : Int32) then none else (
    let x15 := (x14 - x14 / v2 * v2)
    f_M_lookOut_L113 N k65 (f_M_lookOut_L93 N k65 n) N v1 v2 v3 v4 v5 v6 x15 μ11)))
def f_M_lookOut_L65 (N : Nat)   : Nat → Int32 → Int32 → Int32 → Int32 → Mm → Option Mm
  | 0, _, _, _, _, _ => none
  | n + 1, v1, v2, v3, v4, μ =>
    if ixb v1 8 = true then (
    if (μ.1 17 (v1).toNatClampNeg) ≤ v4 then (
    some μ) else (
    bn (f_M_post N v1 v4 μ) (fun r8 μ7 => 
    bn (f_M_viewFrom N v1 r8 μ7) (fun r10 μ9 => 
    f_M_lookOut_L93 N (f_M_lookOut_L65 N n) N v1 v2 v3 v4 r10 (0 : Int32) μ9)))) else none
def f_M_lookOut_L12 (N : Nat)   : Nat → Int32 → Int32 → Mm → Option Mm
  | 0, _, _, _ => none
  | n + 1, v1, v2, μ =>
    if (μ.1 0 31) ≤ v2 then (
    some μ) else (
    if ixb v2 14400 = true then (
    if ixb v1 8 = true then (
    bn (f_M_viewFrom N v1 ((μ.1 13 (v1).toNatClampNeg)) μ) (fun r31 μ30 => 
    let x32 := ((μ.1 21 (v2).toNatClampNeg) ||| r31)
    if ixb v2 14400 = true then (
    let μ33 := sI μ30 21 (v2).toNatClampNeg x32
    let x34 := (v2 + (1 : Int32))
    (f_M_lookOut_L12 N n) v1 x34 μ33) else none)) else none) else none)
def f_M_lookOut (N : Nat) (a1 : Int32) (μ : Mm) : Option Mm :=
  if ixb a1 8 = true then (
  if (μ.1 10 (a1).toNatClampNeg) = (3 : Int32) then (
  f_M_lookOut_L12 N N a1 (0 : Int32) μ) else (
  bn (f_M_periodOf N a1 μ) (fun r3 μ2 => 
  if ixb a1 8 = true then (
  let x4 := (μ2.1 20 (a1).toNatClampNeg)
  if r3 = (0 : Int32) then none else (
  let x5 := (x4 - x4 / r3 * r3)
  f_M_lookOut_L65 N N a1 r3 x5 (0 : Int32) μ2)) else none))) else none
def f_M_laySeen_B59 (N : Nat)  (k38 : Int32 → Mm → Option (Int32 × Mm)) (v1 : Int32) (μ : Mm) : Option (Int32 × Mm) :=
  let x13 := (v1 + (1 : Int32))
  k38 x13 μ
def f_M_laySeen_L38 (N : Nat)   : Nat → Int32 → Mm → Option (Int32 × Mm)
  | 0, _, _ => none
  | n + 1, v1, μ =>
    if (μ.1 0 15) ≤ v1 then (
    some ((1 : Int32), μ)) else (
    bn (f_M_goes N v1 μ) (fun r10 μ9 => 
    if r10 = (0 : Int32) then (
    f_M_laySeen_B59 N (f_M_laySeen_L38 N n) v1 μ9) else (
    bv (f_M_lookOut N v1 μ9) (fun μ12 => 
    f_M_laySeen_B59 N (f_M_laySeen_L38 N n) v1 μ12))))
def f_M_laySeen_B36 (N : Nat)    (μ : Mm) : Option (Int32 × Mm) :=
  f_M_laySeen_L38 N N (0 : Int32) μ
def f_M_laySeen_L15 (N : Nat)   : Nat → Int32 → Mm → Option (Int32 × Mm)
  | 0, _, _ => none
  | n + 1, v1, μ =>
    if (μ.1 0 31) ≤ v1 then (
    f_M_laySeen_B36 N μ) else (
    if ixb v1 14400 = true then (
    let μ6 := sI μ 21 (v1).toNatClampNeg (0 : Int32)
    let x7 := (v1 + (1 : Int32))
    (f_M_laySeen_L15 N n) x7 μ6) else none)
def f_M_laySeen (N : Nat)  (μ : Mm) : Option (Int32 × Mm) :=
  bn (f_M_layJoint N μ) (fun r2 μ1 => 
  if r2 = (0 : Int32) then (
  some ((0 : Int32), μ1)) else (
  bv (f_M_layFars N μ1) (fun μ4 => 
  f_M_laySeen_L15 N N (0 : Int32) μ4)))
def f_M_joint (N : Nat)  (μ : Mm) : Option (Int32 × Mm) :=
  bn (f_M_layJoint N μ) (fun r2 μ1 => 
  if r2 = (0 : Int32) then (
  some ((-6 : Int32), μ1)) else (
  some ((μ1.1 0 31), μ1)))
def f_M_seen_B63 (N : Nat)   (v2 : Int32) (v3 : Int32) (μ : Mm) : Option (Int32 × Mm) :=
  bn (f_M_tells N v2 v3 μ) (fun r14 μ13 => 
  some (r14, μ13))
def f_M_seen_L39 (N : Nat)   : Nat → Int32 → Int32 → Int32 → Mm → Option (Int32 × Mm)
  | 0, _, _, _, _ => none
  | n + 1, v2, v3, v4, μ =>
    if (μ.1 0 9) ≤ v4 then (
    f_M_seen_B63 N v2 v3 μ) else (
    let x11 := (v3 + ((v2 >>> (v4 &&& 31)) &&& (1 : Int32)))
    let x12 := (v4 + (1 : Int32))
    (f_M_seen_L39 N n) v2 x11 x12 μ)
def f_M_seen (N : Nat) (a1 : Int32) (μ : Mm) : Option (Int32 × Mm) :=
  bn (f_M_in N a1 ((0 : Int32)) ((100000 : Int32)) μ) (fun r2 μ1 => 
  if r2 = (0 : Int32) then (
  some ((-1 : Int32), μ1)) else (
  bn (f_M_laySeen N μ1) (fun r5 μ4 => 
  if r5 = (0 : Int32) then (
  some ((-6 : Int32), μ4)) else (
  let x7 := (μ4.1 0 31)
  if x7 = (0 : Int32) then none else (
  let x8 := (a1 - a1 / x7 * x7)
  if ixb x8 14400 = true then (
  let x9 := (μ4.1 21 (x8).toNatClampNeg)
  f_M_seen_L39 N N x9 (0 : Int32) (0 : Int32) μ4) else none)))))
def f_M_isSeen (N : Nat) (a1 : Int32) (a2 : Int32) (μ : Mm) : Option (Int32 × Mm) :=
  let x1 := (μ.1 0 31)
  if x1 = (0 : Int32) then none else (
  let x2 := (a2 - a2 / x1 * x1)
  if ixb x2 14400 = true then (
  if (((μ.1 21 (x2).toNatClampNeg) >>> (a1 &&& 31)) &&& (1 : Int32)) = (1 : Int32) then (
  some ((1 : Int32), μ)) else (
  some ((0 : Int32), μ))) else none)
def f_M_closeRow_B67 (N : Nat)   (s1 : Int32) (s2 : Int32) (μ : Mm) : Option Mm :=
  let μ8 := sI μ 0 35 (s1 + s2)
  some μ8
def f_M_closeRow_B48 (N : Nat)   (v1 : Int32) (v3 : Int32) (μ : Mm) : Option Mm :=
  if v1 < v3 then (
  f_M_closeRow_B67 N (μ.1 0 35) (0 : Int32) μ) else (
  f_M_closeRow_B67 N (μ.1 0 35) ((v1 - v3) + (1 : Int32)) μ)
def f_M_closeRow_B37 (N : Nat)   (v1 : Int32) (v3 : Int32) (v4 : Int32) (μ : Mm) : Option Mm :=
  let μ9 := sI μ 0 33 v1
  let μ10 := sI μ9 0 34 v4
  f_M_closeRow_B48 N v1 v3 μ10
def f_M_closeRow (N : Nat) (a1 : Int32) (a2 : Int32) (a3 : Int32) (μ : Mm) : Option Mm :=
  let x1 := (μ.1 0 31)
  if x1 = (0 : Int32) then none else (
  let x2 := (a2 - a2 / x1 * x1)
  if (μ.1 0 33) < a1 then (
  f_M_closeRow_B37 N a1 a3 x2 μ) else (
  if a1 ≤ (0 : Int32) then (
  f_M_closeRow_B48 N a1 a3 μ) else (
  if a1 = (μ.1 0 33) then (
  if (μ.1 0 34) ≤ x2 then (
  f_M_closeRow_B48 N a1 a3 μ) else (
  f_M_closeRow_B37 N a1 a3 x2 μ)) else (
  f_M_closeRow_B48 N a1 a3 μ))))
def f_M_layRows_B114 (N : Nat)  (k72 : Int32 → Int32 → Int32 → Int32 → Int32 → Mm → Option Mm) (v1 : Int32) (v2 : Int32) (v3 : Int32) (v4 : Int32) (v5 : Int32) (μ : Mm) : Option Mm :=
  let x19 := (v5 + (1 : Int32))
  k72 v1 v2 v3 v4 x19 μ
def f_M_layRows_L72 (N : Nat)   : Nat → Int32 → Int32 → Int32 → Int32 → Int32 → Mm → Option Mm
  | 0, _, _, _, _, _, _ => none
  | n + 1, v1, v2, v3, v4, v5, μ =>
    if (v3 + (μ.1 0 31)) < v5 then (
    some μ) else (
    bn (f_M_isSeen N v1 v5 μ) (fun r15 μ14 => 
    if r15 = (0 : Int32) then (
    let x17 := (v4 + (1 : Int32))
    f_M_layRows_B114 N (f_M_layRows_L72 N n) v1 v2 v3 x17 v5 μ14) else (
    bv (f_M_closeRow N v4 ((v5 - v4)) v2 μ14) (fun μ18 => 
    f_M_layRows_B114 N (f_M_layRows_L72 N n) v1 v2 v3 (0 : Int32) v5 μ18))))
def f_M_layRows_B41 (N : Nat)   (v1 : Int32) (v2 : Int32) (v3 : Int32) (μ : Mm) : Option Mm :=
  if v3 = (μ.1 0 31) then (
  let μ10 := sI μ 0 33 (-9 : Int32)
  let μ11 := sI μ10 0 35 (μ10.1 0 31)
  some μ11) else (
  let x12 := (v3 + (1 : Int32))
  f_M_layRows_L72 N N v1 v2 v3 (0 : Int32) x12 μ)
def f_M_layRows_L18 (N : Nat)   : Nat → Int32 → Int32 → Int32 → Mm → Option Mm
  | 0, _, _, _, _ => none
  | n + 1, v1, v2, v3, μ =>
    if (μ.1 0 31) ≤ v3 then (
    f_M_layRows_B41 N v1 v2 v3 μ) else (
    bn (f_M_isSeen N v1 v3 μ) (fun r6 μ5 => 
    if r6 = (0 : Int32) then (
    let x8 := (v3 + (1 : Int32))
    (f_M_layRows_L18 N n) v1 v2 x8 μ5) else (
    f_M_layRows_B41 N v1 v2 v3 μ5)))
def f_M_layRows (N : Nat) (a1 : Int32) (a2 : Int32) (μ : Mm) : Option Mm :=
  let μ1 := sI μ 0 33 (0 : Int32)
  let μ2 := sI μ1 0 34 (-9 : Int32)
  let μ3 := sI μ2 0 35 (0 : Int32)
  f_M_layRows_L18 N N a1 a2 (0 : Int32) μ3
def f_M_idle (N : Nat) (a1 : Int32) (μ : Mm) : Option (Int32 × Mm) :=
  bn (f_M_isPost N a1 μ) (fun r2 μ1 => 
  if r2 = (0 : Int32) then (
  some ((-1 : Int32), μ1)) else (
  bn (f_M_laySeen N μ1) (fun r5 μ4 => 
  if r5 = (0 : Int32) then (
  some ((-6 : Int32), μ4)) else (
  bv (f_M_layRows N a1 ((1 : Int32)) μ4) (fun μ7 => 
  some ((μ7.1 0 33), μ7))))))
def f_M_idleFrom (N : Nat) (a1 : Int32) (μ : Mm) : Option (Int32 × Mm) :=
  bn (f_M_isPost N a1 μ) (fun r2 μ1 => 
  if r2 = (0 : Int32) then (
  some ((-1 : Int32), μ1)) else (
  bn (f_M_laySeen N μ1) (fun r5 μ4 => 
  if r5 = (0 : Int32) then (
  some ((-6 : Int32), μ4)) else (
  bv (f_M_layRows N a1 ((1 : Int32)) μ4) (fun μ7 => 
  some ((μ7.1 0 34), μ7))))))
def f_M_layWorst_B115 (N : Nat)  (k13 : Int32 → Mm → Option Mm) (v1 : Int32) (μ : Mm) : Option Mm :=
  let x14 := (v1 + (1 : Int32))
  k13 x14 μ
def f_M_layWorst_B95 (N : Nat)  (k13 : Int32 → Mm → Option Mm) (v1 : Int32) (μ : Mm) : Option Mm :=
  let μ12 := sI μ 0 36 v1
  if ixb v1 16 = true then (
  let μ13 := sI μ12 0 37 ((μ12.1 7 (v1).toNatClampNeg) * (μ12.1 0 33))
  f_M_layWorst_B115 N k13 v1 μ13) else none
def f_M_layWorst_L13 (N : Nat)   : Nat → Int32 → Mm → Option Mm
  | 0, _, _ => none
  | n + 1, v1, μ =>
    if (μ.1 0 9) ≤ v1 then (
    some μ) else (
    if ixb v1 16 = true then (
    if (μ.1 7 (v1).toNatClampNeg) ≤ (0 : Int32) then (
    f_M_layWorst_B115 N (f_M_layWorst_L13 N n) v1 μ) else (
    if (μ.1 0 37) = (-9 : Int32) then (
    f_M_layWorst_B115 N (f_M_layWorst_L13 N n) v1 μ) else (
    bv (f_M_layRows N v1 ((1 : Int32)) μ) (fun μ6 => 
    if (μ6.1 0 33) = (-9 : Int32) then (
    let μ8 := sI μ6 0 36 v1
    let μ9 := sI μ8 0 37 (-9 : Int32)
    f_M_layWorst_B115 N (f_M_layWorst_L13 N n) v1 μ9) else (
    if (μ6.1 0 36) = (-9 : Int32) then (
    f_M_layWorst_B95 N (f_M_layWorst_L13 N n) v1 μ6) else (
    if ixb v1 16 = true then (
    if ((μ6.1 7 (v1).toNatClampNeg) * (μ6.1 0 33)) ≤ (μ6.1 0 37) then (
    f_M_layWorst_B115 N (f_M_layWorst_L13 N n) v1 μ6) else (
    f_M_layWorst_B95 N (f_M_layWorst_L13 N n) v1 μ6)) else none)))))) else none)
def f_M_layWorst (N : Nat)  (μ : Mm) : Option Mm :=
  let μ1 := sI μ 0 36 (-9 : Int32)
  let μ2 := sI μ1 0 37 (0 : Int32)
  f_M_layWorst_L13 N N (0 : Int32) μ2
def f_M_worst (N : Nat)  (μ : Mm) : Option (Int32 × Mm) :=
  bn (f_M_laySeen N μ) (fun r2 μ1 => 
  if r2 = (0 : Int32) then (
  some ((-6 : Int32), μ1)) else (
  bv (f_M_layWorst N μ1) (fun μ4 => 
  if (μ4.1 0 36) = (-9 : Int32) then (
  some ((-9 : Int32), μ4)) else (
  bn (f_M_tells N ((μ4.1 0 37)) ((μ4.1 0 36)) μ4) (fun r7 μ6 => 
  some (r7, μ6))))))
def f_M_share_B55 (N : Nat)   (v2 : Int32) (μ : Mm) : Option (Int32 × Mm) :=
  bn (f_M_fraction N (((v2).toInt64)) ((((μ.1 0 31)).toInt64)) ((1 : Int32)) μ) (fun r14 μ13 => 
  some (r14, μ13))
def f_M_share_B47 (N : Nat)  (k24 : Int32 → Int32 → Int32 → Mm → Option (Int32 × Mm)) (v1 : Int32) (v3 : Int32) (s0 : Int32) (s1 : Int32) (μ : Mm) : Option (Int32 × Mm) :=
  let x11 := (s0 + s1)
  let x12 := (v3 + (1 : Int32))
  k24 v1 x11 x12 μ
def f_M_share_L24 (N : Nat)   : Nat → Int32 → Int32 → Int32 → Mm → Option (Int32 × Mm)
  | 0, _, _, _, _ => none
  | n + 1, v1, v2, v3, μ =>
    if (μ.1 0 31) ≤ v3 then (
    f_M_share_B55 N v2 μ) else (
    bn (f_M_isSeen N v1 v3 μ) (fun r9 μ8 => 
    if r9 = (0 : Int32) then (
    f_M_share_B47 N (f_M_share_L24 N n) v1 v3 v2 (0 : Int32) μ8) else (
    f_M_share_B47 N (f_M_share_L24 N n) v1 v3 v2 (1 : Int32) μ8)))
def f_M_share (N : Nat) (a1 : Int32) (μ : Mm) : Option (Int32 × Mm) :=
  bn (f_M_isPost N a1 μ) (fun r2 μ1 => 
  if r2 = (0 : Int32) then (
  some ((-1 : Int32), μ1)) else (
  bn (f_M_laySeen N μ1) (fun r5 μ4 => 
  if r5 = (0 : Int32) then (
  some ((-6 : Int32), μ4)) else (
  f_M_share_L24 N N a1 (0 : Int32) (0 : Int32) μ4))))
def f_M_isNeed (N : Nat) (a1 : Int32) (μ : Mm) : Option (Int32 × Mm) :=
  bn (f_M_in N a1 ((1 : Int32)) ((14400 : Int32)) μ) (fun r2 μ1 => 
  if zb r2 = true then some (r2, μ1) else none)
def f_M_chance (N : Nat) (a1 : Int32) (a2 : Int32) (μ : Mm) : Option (Int32 × Mm) :=
  bn (f_M_isPost N a1 μ) (fun r2 μ1 => 
  if r2 = (0 : Int32) then (
  some ((-1 : Int32), μ1)) else (
  bn (f_M_isNeed N a2 μ1) (fun r5 μ4 => 
  if r5 = (0 : Int32) then (
  some ((-1 : Int32), μ4)) else (
  bn (f_M_laySeen N μ4) (fun r8 μ7 => 
  if r8 = (0 : Int32) then (
  some ((-6 : Int32), μ7)) else (
  bv (f_M_layRows N a1 a2 μ7) (fun μ10 => 
  bn (f_M_fraction N ((((μ10.1 0 35)).toInt64)) ((((μ10.1 0 31)).toInt64)) ((1 : Int32)) μ10) (fun r12 μ11 => 
  some (r12, μ11)))))))))
def f_M_thief_B81 (N : Nat)   (v2 : Int32) (v3 : Int32) (μ : Mm) : Option (Int32 × Mm) :=
  if v2 = (-9 : Int32) then (
  some ((-9 : Int32), μ)) else (
  bn (f_M_fraction N (((v3).toInt64)) ((((μ.1 0 31)).toInt64)) v2 μ) (fun r14 μ13 => 
  some (r14, μ13)))
def f_M_thief_B75 (N : Nat)  (k27 : Int32 → Int32 → Int32 → Int32 → Mm → Option (Int32 × Mm)) (v1 : Int32) (v2 : Int32) (v3 : Int32) (v4 : Int32) (μ : Mm) : Option (Int32 × Mm) :=
  let x11 := (v4 + (1 : Int32))
  k27 v1 v2 v3 x11 μ
def f_M_thief_L27 (N : Nat)   : Nat → Int32 → Int32 → Int32 → Int32 → Mm → Option (Int32 × Mm)
  | 0, _, _, _, _, _ => none
  | n + 1, v1, v2, v3, v4, μ =>
    if (μ.1 0 9) ≤ v4 then (
    f_M_thief_B81 N v2 v3 μ) else (
    bv (f_M_layRows N v4 v1 μ) (fun μ8 => 
    if ixb v4 16 = true then (
    if ((μ8.1 7 (v4).toNatClampNeg) * (μ8.1 0 35)) ≤ v3 then (
    f_M_thief_B75 N (f_M_thief_L27 N n) v1 v2 v3 v4 μ8) else (
    if ixb v4 16 = true then (
    let x10 := ((μ8.1 7 (v4).toNatClampNeg) * (μ8.1 0 35))
    f_M_thief_B75 N (f_M_thief_L27 N n) v1 v4 x10 v4 μ8) else none)) else none))
def f_M_thief (N : Nat) (a1 : Int32) (μ : Mm) : Option (Int32 × Mm) :=
  bn (f_M_isNeed N a1 μ) (fun r2 μ1 => 
  if r2 = (0 : Int32) then (
  some ((-1 : Int32), μ1)) else (
  bn (f_M_laySeen N μ1) (fun r5 μ4 => 
  if r5 = (0 : Int32) then (
  some ((-6 : Int32), μ4)) else (
  f_M_thief_L27 N N a1 (-9 : Int32) (0 : Int32) (0 : Int32) μ4))))
def f_M_safe_B74 (N : Nat)  (k14 : Int32 → Int32 → Mm → Option (Int32 × Mm)) (v1 : Int32) (v2 : Int32) (μ : Mm) : Option (Int32 × Mm) :=
  let x10 := (v2 + (1 : Int32))
  k14 v1 x10 μ
def f_M_safe_B73 (N : Nat)  (k14 : Int32 → Int32 → Mm → Option (Int32 × Mm)) (v2 : Int32) (s0 : Int32) (μ : Mm) : Option (Int32 × Mm) :=
  f_M_safe_B74 N k14 s0 v2 μ
def f_M_safe_L14 (N : Nat)   : Nat → Int32 → Int32 → Mm → Option (Int32 × Mm)
  | 0, _, _, _ => none
  | n + 1, v1, v2, μ =>
    if (μ.1 0 9) ≤ v2 then (
    some (v1, μ)) else (
    if ixb v2 16 = true then (
    if (μ.1 7 (v2).toNatClampNeg) ≤ (0 : Int32) then (
    f_M_safe_B74 N (f_M_safe_L14 N n) v1 v2 μ) else (
    if v1 = (-9 : Int32) then (
    f_M_safe_B74 N (f_M_safe_L14 N n) v1 v2 μ) else (
    bv (f_M_layRows N v2 ((1 : Int32)) μ) (fun μ7 => 
    if (μ7.1 0 33) = (-9 : Int32) then (
    f_M_safe_B73 N (f_M_safe_L14 N n) v2 (-9 : Int32) μ7) else (
    if (μ7.1 0 33) ≤ v1 then (
    f_M_safe_B73 N (f_M_safe_L14 N n) v2 v1 μ7) else (
    f_M_safe_B73 N (f_M_safe_L14 N n) v2 (μ7.1 0 33) μ7)))))) else none)
def f_M_safe (N : Nat)  (μ : Mm) : Option (Int32 × Mm) :=
  bn (f_M_laySeen N μ) (fun r2 μ1 => 
  if r2 = (0 : Int32) then (
  some ((-6 : Int32), μ1)) else (
  f_M_safe_L14 N N (0 : Int32) (0 : Int32) μ1))
def f_M_bitsOf_L4 (N : Nat)   : Nat → Int32 → Int32 → Int32 → Mm → Option (Int32 × Mm)
  | 0, _, _, _, _ => none
  | n + 1, v0, v1, v2, μ =>
    if (8 : Int32) ≤ v2 then (
    some (v1, μ)) else (
    let x2 := (v1 + ((v0 >>> (v2 &&& 31)) &&& (1 : Int32)))
    let x3 := (v2 + (1 : Int32))
    (f_M_bitsOf_L4 N n) v0 x2 x3 μ)
def f_M_bitsOf (N : Nat) (a1 : Int32) (μ : Mm) : Option (Int32 × Mm) :=
  f_M_bitsOf_L4 N N a1 (0 : Int32) (0 : Int32) μ
def f_M_peril_B215 (N : Nat)   (v4 : Int32) (v5 : Int32) (v6 : Int32) (v7 : Int32) (μ : Mm) : Option (Int32 × Mm) :=
  let μ35 := sI μ 0 27 (0 : Int32)
  if v7 = (0 : Int32) then (
  if v6 = (-9 : Int32) then (
  bn (f_M_tells N v4 v5 μ35) (fun r39 μ38 => 
  some (r39, μ38))) else (
  bn (f_M_tells N v6 ((-9 : Int32)) μ35) (fun r41 μ40 => 
  some (r41, μ40)))) else (
  some ((-6 : Int32), μ35))
def f_M_peril_B209 (N : Nat)  (k86 : Int32 → Int32 → Int32 → Int32 → Int32 → Int32 → Int32 → Mm → Option (Int32 × Mm)) (v2 : Int32) (v3 : Int32) (v4 : Int32) (v5 : Int32) (v6 : Int32) (v7 : Int32) (v8 : Int32) (μ : Mm) : Option (Int32 × Mm) :=
  let x26 := (v8 + (1 : Int32))
  k86 v2 v3 v4 v5 v6 v7 x26 μ
def f_M_peril_B199 (N : Nat)  (k86 : Int32 → Int32 → Int32 → Int32 → Int32 → Int32 → Int32 → Mm → Option (Int32 × Mm)) (v2 : Int32) (v3 : Int32) (v6 : Int32) (v7 : Int32) (v8 : Int32) (μ : Mm) : Option (Int32 × Mm) :=
  let x34 := (μ.1 0 37)
  f_M_peril_B209 N k86 v2 v3 v8 x34 v6 v7 v8 μ
def f_M_peril_B172 (N : Nat)  (k86 : Int32 → Int32 → Int32 → Int32 → Int32 → Int32 → Int32 → Mm → Option (Int32 × Mm)) (v2 : Int32) (v3 : Int32) (v4 : Int32) (v5 : Int32) (v7 : Int32) (v8 : Int32) (s0 : Int32) (μ : Mm) : Option (Int32 × Mm) :=
  if (μ.1 0 37) = (-9 : Int32) then (
  f_M_peril_B209 N k86 v2 v3 v4 v5 s0 v7 v8 μ) else (
  if v4 = (-9 : Int32) then (
  f_M_peril_B199 N k86 v2 v3 s0 v7 v8 μ) else (
  if (μ.1 0 37) ≤ v5 then (
  f_M_peril_B209 N k86 v2 v3 v4 v5 s0 v7 v8 μ) else (
  f_M_peril_B199 N k86 v2 v3 s0 v7 v8 μ)))
def f_M_peril_B170 (N : Nat)  (k86 : Int32 → Int32 → Int32 → Int32 → Int32 → Int32 → Int32 → Mm → Option (Int32 × Mm)) (v2 : Int32) (v3 : Int32) (v4 : Int32) (v5 : Int32) (v6 : Int32) (v7 : Int32) (v8 : Int32) (μ : Mm) : Option (Int32 × Mm) :=
  f_M_peril_B172 N k86 v2 v3 v4 v5 v7 v8 v6 μ
def f_M_peril_B138 (N : Nat)  (k86 : Int32 → Int32 → Int32 → Int32 → Int32 → Int32 → Int32 → Mm → Option (Int32 × Mm)) (v2 : Int32) (v3 : Int32) (v4 : Int32) (v5 : Int32) (v6 : Int32) (v8 : Int32) (s0 : Int32) (μ : Mm) : Option (Int32 × Mm) :=
  if s0 = (0 : Int32) then (
  bv (f_M_layWorst N μ) (fun μ28 => 
  if v6 = (-9 : Int32) then (
  if (μ28.1 0 37) = (-9 : Int32) then (
  f_M_peril_B172 N k86 v2 v3 v4 v5 s0 v8 v8 μ28) else (
  f_M_peril_B170 N k86 v2 v3 v4 v5 v6 s0 v8 μ28)) else (
  f_M_peril_B170 N k86 v2 v3 v4 v5 v6 s0 v8 μ28))) else (
  f_M_peril_B209 N k86 v2 v3 v4 v5 v6 s0 v8 μ)
def f_M_peril_L86 (N : Nat)   : Nat → Int32 → Int32 → Int32 → Int32 → Int32 → Int32 → Int32 → Mm → Option (Int32 × Mm)
  | 0, _, _, _, _, _, _, _, _ => none
  | n + 1, v2, v3, v4, v5, v6, v7, v8, μ =>
    if ((1 : Int32) <<< ((μ.1 0 15) &&& 31)) ≤ v8 then (
    f_M_peril_B215 N v4 v5 v6 v7 μ) else (
    if v7 = (0 : Int32) then (
    if (v8 &&& (v2 ^^^ (-1 : Int32))) = (0 : Int32) then (
    bn (f_M_bitsOf N v8 μ) (fun r20 μ19 => 
    if r20 = v3 then (
    let μ22 := sI μ19 0 27 v8
    bn (f_M_laySeen N μ22) (fun r24 μ23 => 
    if r24 = (0 : Int32) then (
    f_M_peril_B138 N (f_M_peril_L86 N n) v2 v3 v4 v5 v6 v8 (1 : Int32) μ23) else (
    f_M_peril_B138 N (f_M_peril_L86 N n) v2 v3 v4 v5 v6 v8 (0 : Int32) μ23))) else (
    f_M_peril_B209 N (f_M_peril_L86 N n) v2 v3 v4 v5 v6 v7 v8 μ19))) else (
    f_M_peril_B209 N (f_M_peril_L86 N n) v2 v3 v4 v5 v6 v7 v8 μ)) else (
    f_M_peril_B215 N v4 v5 v6 v7 μ))
def f_M_peril_B68 (N : Nat)   (v2 : Int32) (s0 : Int32) (μ : Mm) : Option (Int32 × Mm) :=
  f_M_peril_L86 N N v2 s0 (-9 : Int32) (0 : Int32) (-9 : Int32) (0 : Int32) (0 : Int32) μ
def f_M_peril_B52 (N : Nat)   (v1 : Int32) (v2 : Int32) (μ : Mm) : Option (Int32 × Mm) :=
  bn (f_M_bitsOf N v2 μ) (fun r12 μ11 => 
  if v1 ≤ r12 then (
  f_M_peril_B68 N v2 v1 μ11) else (
  bn (f_M_bitsOf N v2 μ11) (fun r15 μ14 => 
  f_M_peril_B68 N v2 r15 μ14)))
def f_M_peril_B44 (N : Nat)  (k20 : Int32 → Int32 → Int32 → Mm → Option (Int32 × Mm)) (v1 : Int32) (v3 : Int32) (s0 : Int32) (s1 : Int32) (μ : Mm) : Option (Int32 × Mm) :=
  let x9 := (s0 ||| s1)
  let x10 := (v3 + (1 : Int32))
  k20 v1 x9 x10 μ
def f_M_peril_L20 (N : Nat)   : Nat → Int32 → Int32 → Int32 → Mm → Option (Int32 × Mm)
  | 0, _, _, _, _ => none
  | n + 1, v1, v2, v3, μ =>
    if (μ.1 0 15) ≤ v3 then (
    f_M_peril_B52 N v1 v2 μ) else (
    bn (f_M_goes N v3 μ) (fun r7 μ6 => 
    if r7 = (0 : Int32) then (
    f_M_peril_B44 N (f_M_peril_L20 N n) v1 v3 v2 (0 : Int32) μ6) else (
    f_M_peril_B44 N (f_M_peril_L20 N n) v1 v3 v2 ((1 : Int32) <<< (v3 &&& 31)) μ6)))
def f_M_peril (N : Nat) (a1 : Int32) (μ : Mm) : Option (Int32 × Mm) :=
  bn (f_M_in N a1 ((0 : Int32)) ((3 : Int32)) μ) (fun r2 μ1 => 
  if r2 = (0 : Int32) then (
  some ((-1 : Int32), μ1)) else (
  let μ4 := sI μ1 0 27 (0 : Int32)
  f_M_peril_L20 N N a1 (0 : Int32) (0 : Int32) μ4))
def f_M_walk_B219 (N : Nat)   (v3 : Int32) (v7 : Int32) (v8 : Int32) (v9 : Int32) (μ : Mm) : Option Mm :=
  if v3 = (0 : Int32) then (
  let μ17 := sI μ 0 38 v7
  let μ18 := sI μ17 0 40 v8
  let μ19 := sI μ18 0 42 v9
  some μ19) else (
  let μ20 := sI μ 0 39 v7
  let μ21 := sI μ20 0 41 v8
  let μ22 := sI μ21 0 43 v9
  some μ22)
def f_M_walk_B217 (N : Nat)   (v3 : Int32) (v7 : Int32) (v8 : Int32) (s0 : Int32) (μ : Mm) : Option Mm :=
  f_M_walk_B219 N v3 v7 v8 s0 μ
def f_M_walk_B187 (N : Nat)   (v1 : Int32) (v3 : Int32) (v4 : Int32) (v5 : Int32) (v7 : Int32) (s0 : Int32) (μ : Mm) : Option Mm :=
  if v5 ≤ v4 then (
  if ixb v1 8 = true then (
  f_M_walk_B217 N v3 v7 s0 (s0 - (μ.1 11 (v1).toNatClampNeg)) μ) else none) else (
  if ixb v1 8 = true then (
  f_M_walk_B217 N v3 v7 s0 (s0 + (μ.1 11 (v1).toNatClampNeg)) μ) else none)
def f_M_walk_B126 (N : Nat)   (v1 : Int32) (v3 : Int32) (v4 : Int32) (v5 : Int32) (v6 : Int32) (v10 : Int32) (s0 : Int32) (μ : Mm) : Option Mm :=
  let x11 := (((16 : Int32) * v10) + s0)
  if ixb x11 256 = true then (
  let x12 := ((60 : Int32) * (μ.1 5 (x11).toNatClampNeg))
  let x13 := (((16 : Int32) * v10) + s0)
  if v5 ≤ v4 then (
  if ixb v1 8 = true then (
  f_M_walk_B187 N v1 v3 v4 v5 x13 (x12 - (v6 * (μ.1 11 (v1).toNatClampNeg))) μ) else none) else (
  if ixb v1 8 = true then (
  f_M_walk_B187 N v1 v3 v4 v5 x13 (v6 * (μ.1 11 (v1).toNatClampNeg)) μ) else none)) else none
def f_M_walk_B110 (N : Nat)   (v1 : Int32) (v3 : Int32) (v4 : Int32) (v5 : Int32) (v6 : Int32) (s0 : Int32) (μ : Mm) : Option Mm :=
  if v5 ≤ v4 then (
  f_M_walk_B126 N v1 v3 v4 v5 v6 s0 v4 μ) else (
  f_M_walk_B126 N v1 v3 v4 v5 v6 s0 v5 μ)
def f_M_walk_B79 (N : Nat)   (v1 : Int32) (v3 : Int32) (v4 : Int32) (v5 : Int32) (v6 : Int32) (μ : Mm) : Option Mm :=
  if v5 = v4 then (
  f_M_walk_B219 N v3 (-9 : Int32) (0 : Int32) (0 : Int32) μ) else (
  if v5 ≤ v4 then (
  f_M_walk_B110 N v1 v3 v4 v5 v6 v5 μ) else (
  f_M_walk_B110 N v1 v3 v4 v5 v6 v4 μ))
def f_M_walk_B55 (N : Nat)   (v1 : Int32) (v3 : Int32) (v4 : Int32) (v6 : Int32) (s0 : Int32) (μ : Mm) : Option Mm :=
  if (μ.1 0 30) = (0 : Int32) then (
  if (μ.1 0 28) = v4 then (
  f_M_walk_B79 N v1 v3 v4 s0 v6 μ) else (
  let x25 := (μ.1 0 28)
  f_M_walk_B79 N v1 v3 v4 x25 v6 μ)) else (
  f_M_walk_B79 N v1 v3 v4 s0 v6 μ)
def f_M_walk (N : Nat) (a1 : Int32) (a2 : Int32) (a3 : Int32) (μ : Mm) : Option Mm :=
  bv (f_M_find N a1 a2 μ) (fun μ1 => 
  let x2 := (μ1.1 0 28)
  let x3 := (μ1.1 0 29)
  let x4 := (μ1.1 0 30)
  if x3 = x2 then (
  bv (f_M_find N a1 ((a2 + (1 : Int32))) μ1) (fun μ6 => 
  if (μ6.1 0 30) ≤ (0 : Int32) then (
  f_M_walk_B55 N a1 a3 x2 x4 x2 μ6) else (
  f_M_walk_B55 N a1 a3 x2 x4 (μ6.1 0 29) μ6))) else (
  f_M_walk_B79 N a1 a3 x2 x3 x4 μ1))
def f_M_areTogether_B134 (N : Nat)   (v1 : Int32) (v2 : Int32) (v4 : Int32) (v5 : Int32) (v6 : Int32) (v7 : Int32) (μ : Mm) : Option (Int32 × Mm) :=
  if v4 = (μ.1 0 29) then (
  if v5 = (μ.1 0 28) then (
  if ixb v1 8 = true then (
  if ixb v2 8 = true then (
  if (v6 * (μ.1 11 (v1).toNatClampNeg)) = (v7 - ((μ.1 0 30) * (μ.1 11 (v2).toNatClampNeg))) then (
  some ((1 : Int32), μ)) else (
  some ((0 : Int32), μ))) else none) else none) else (
  some ((0 : Int32), μ))) else (
  some ((0 : Int32), μ))
def f_M_areTogether_B42 (N : Nat)   (v4 : Int32) (v6 : Int32) (μ : Mm) : Option (Int32 × Mm) :=
  if v6 = (0 : Int32) then (
  if (μ.1 0 30) = (0 : Int32) then (
  if v4 = (μ.1 0 28) then (
  some ((1 : Int32), μ)) else (
  some ((0 : Int32), μ))) else (
  some ((0 : Int32), μ))) else (
  some ((0 : Int32), μ))
def f_M_areTogether (N : Nat) (a1 : Int32) (a2 : Int32) (a3 : Int32) (μ : Mm) : Option (Int32 × Mm) :=
  bv (f_M_find N a1 a3 μ) (fun μ1 => 
  let x2 := (μ1.1 0 28)
  let x3 := (μ1.1 0 29)
  let x4 := (μ1.1 0 30)
  bv (f_M_find N a2 a3 μ1) (fun μ5 => 
  if x4 = (0 : Int32) then (
  f_M_areTogether_B42 N x2 x4 μ5) else (
  if (μ5.1 0 30) = (0 : Int32) then (
  f_M_areTogether_B42 N x2 x4 μ5) else (
  let x8 := (((16 : Int32) * x2) + x3)
  if ixb x8 256 = true then (
  let x9 := ((60 : Int32) * (μ5.1 5 (x8).toNatClampNeg))
  if x2 = (μ5.1 0 28) then (
  if x3 = (μ5.1 0 29) then (
  if ixb a1 8 = true then (
  if ixb a2 8 = true then (
  if (x4 * (μ5.1 11 (a1).toNatClampNeg)) = ((μ5.1 0 30) * (μ5.1 11 (a2).toNatClampNeg)) then (
  some ((1 : Int32), μ5)) else (
  some ((0 : Int32), μ5))) else none) else none) else (
  f_M_areTogether_B134 N a1 a2 x2 x3 x4 x9 μ5)) else (
  f_M_areTogether_B134 N a1 a2 x2 x3 x4 x9 μ5)) else none))))
def f_M_jointOf (N : Nat) (a1 : Int32) (a2 : Int32) (μ : Mm) : Option (Int64 × Mm) :=
  bn (f_M_periodOf N a1 μ) (fun r2 μ1 => 
  let x3 := (r2).toInt64
  bn (f_M_periodOf N a2 μ1) (fun r5 μ4 => 
  let x6 := (r5).toInt64
  bn (f_M_gcd N x3 x6 μ4) (fun r8 μ7 => 
  if r8 = (0 : Int64) then none else (
  some (((x3 / r8) * x6), μ7)))))
def f_M_meetFrom_B224 (N : Nat)    (μ : Mm) : Option (Int64 × Mm) :=
  some ((-1 : Int64), μ)
def f_M_meetFrom_B218 (N : Nat)  (k20 : Int32 → Int32 → Int64 → Int64 → Int32 → Int32 → Mm → Option (Int64 × Mm)) (v1 : Int32) (v2 : Int32) (v3 : Int64) (v5 : Int64) (v7 : Int32) (v8 : Int32) (μ : Mm) : Option (Int64 × Mm) :=
  let x24 := (v8 + (1 : Int32))
  k20 v1 v2 v3 v5 v7 x24 μ
def f_M_meetFrom_B184 (N : Nat)  (k20 : Int32 → Int32 → Int64 → Int64 → Int32 → Int32 → Mm → Option (Int64 × Mm)) (v1 : Int32) (v2 : Int32) (v3 : Int64) (v5 : Int64) (v7 : Int32) (v8 : Int32) (v13 : Int64) (s0 : Int64) (μ : Mm) : Option (Int64 × Mm) :=
  let x19 := (v13 + s0)
  if x19 = (0 : Int64) then none else (
  let x20 := (((v8).toInt64 * (27720 : Int64)) + (((27720 : Int64) / x19) * v13))
  if (lg_cmp x20 v3) < (0 : Int32) then (
  f_M_meetFrom_B218 N k20 v1 v2 v3 v5 v7 v8 μ) else (
  some (x20, μ)))
def f_M_meetFrom_B167 (N : Nat)  (k20 : Int32 → Int32 → Int64 → Int64 → Int32 → Int32 → Mm → Option (Int64 × Mm)) (v1 : Int32) (v2 : Int32) (v3 : Int64) (v5 : Int64) (v7 : Int32) (v8 : Int32) (v11 : Int64) (s0 : Int64) (μ : Mm) : Option (Int64 × Mm) :=
  if (0 : Int32) ≤ (lg_cmp v11 (0 : Int64)) then (
  f_M_meetFrom_B184 N k20 v1 v2 v3 v5 v7 v8 s0 v11 μ) else (
  f_M_meetFrom_B184 N k20 v1 v2 v3 v5 v7 v8 s0 (-v11) μ)
def f_M_meetFrom_B152 (N : Nat)  (k20 : Int32 → Int32 → Int64 → Int64 → Int32 → Int32 → Mm → Option (Int64 × Mm)) (v1 : Int32) (v2 : Int32) (v3 : Int64) (v5 : Int64) (v7 : Int32) (v8 : Int32) (v9 : Int64) (v11 : Int64) (μ : Mm) : Option (Int64 × Mm) :=
  if (0 : Int32) ≤ (lg_cmp v9 (0 : Int64)) then (
  f_M_meetFrom_B167 N k20 v1 v2 v3 v5 v7 v8 v11 v9 μ) else (
  f_M_meetFrom_B167 N k20 v1 v2 v3 v5 v7 v8 v11 (-v9) μ)
def f_M_meetFrom_B138 (N : Nat)  (k20 : Int32 → Int32 → Int64 → Int64 → Int32 → Int32 → Mm → Option (Int64 × Mm)) (v1 : Int32) (v2 : Int32) (v3 : Int64) (v5 : Int64) (v7 : Int32) (v8 : Int32) (v9 : Int64) (v11 : Int64) (μ : Mm) : Option (Int64 × Mm) :=
  if (lg_cmp v9 (0 : Int64)) ≤ (0 : Int32) then (
  f_M_meetFrom_B218 N k20 v1 v2 v3 v5 v7 v8 μ) else (
  if (0 : Int32) ≤ (lg_cmp v11 (0 : Int64)) then (
  f_M_meetFrom_B218 N k20 v1 v2 v3 v5 v7 v8 μ) else (
  f_M_meetFrom_B152 N k20 v1 v2 v3 v5 v7 v8 v9 v11 μ))
def f_M_meetFrom_B64 (N : Nat)  (k20 : Int32 → Int32 → Int64 → Int64 → Int32 → Int32 → Mm → Option (Int64 × Mm)) (v1 : Int32) (v2 : Int32) (v3 : Int64) (v5 : Int64) (v7 : Int32) (v8 : Int32) (μ : Mm) : Option (Int64 × Mm) :=
  bv (f_M_walk N v1 v8 ((0 : Int32)) μ) (fun μ9 => 
  bv (f_M_walk N v2 v8 ((1 : Int32)) μ9) (fun μ10 => 
  if (μ10.1 0 38) = (-9 : Int32) then (
  f_M_meetFrom_B218 N k20 v1 v2 v3 v5 v7 v8 μ10) else (
  if (μ10.1 0 38) = (μ10.1 0 39) then (
  let x13 := (((μ10.1 0 40) - (μ10.1 0 41))).toInt64
  let x14 := (((μ10.1 0 42) - (μ10.1 0 43))).toInt64
  if (0 : Int32) ≤ (lg_cmp x13 (0 : Int64)) then (
  f_M_meetFrom_B138 N k20 v1 v2 v3 v5 v7 v8 x13 x14 μ10) else (
  if (0 : Int32) < (lg_cmp x14 (0 : Int64)) then (
  f_M_meetFrom_B152 N k20 v1 v2 v3 v5 v7 v8 x13 x14 μ10) else (
  f_M_meetFrom_B138 N k20 v1 v2 v3 v5 v7 v8 x13 x14 μ10))) else (
  f_M_meetFrom_B218 N k20 v1 v2 v3 v5 v7 v8 μ10))))
def f_M_meetFrom_B56 (N : Nat)   (v8 : Int32) (μ : Mm) : Option (Int64 × Mm) :=
  some (((v8).toInt64 * (27720 : Int64)), μ)
def f_M_meetFrom_L20 (N : Nat)   : Nat → Int32 → Int32 → Int64 → Int64 → Int32 → Int32 → Mm → Option (Int64 × Mm)
  | 0, _, _, _, _, _, _, _ => none
  | n + 1, v1, v2, v3, v5, v7, v8, μ =>
    if (0 : Int32) < (lg_cmp (v8).toInt64 ((v7).toInt64 + v5)) then (
    f_M_meetFrom_B224 N μ) else (
    if (lg_cmp ((v8).toInt64 * (27720 : Int64)) v3) < (0 : Int32) then (
    f_M_meetFrom_B64 N (f_M_meetFrom_L20 N n) v1 v2 v3 v5 v7 v8 μ) else (
    bn (f_M_areTogether N v1 v2 v8 μ) (fun r7 μ6 => 
    if r7 = (0 : Int32) then (
    f_M_meetFrom_B64 N (f_M_meetFrom_L20 N n) v1 v2 v3 v5 v7 v8 μ6) else (
    f_M_meetFrom_B56 N v8 μ6))))
def f_M_meetFrom (N : Nat) (a1 : Int32) (a2 : Int32) (a3 : Int64) (μ : Mm) : Option (Int64 × Mm) :=
  bn (f_M_jointOf N a1 a2 μ) (fun r2 μ1 => 
  if (27720 : Int64) = (0 : Int64) then none else (
  let x3 := ((a3 / (27720 : Int64))).toInt32
  f_M_meetFrom_L20 N N a1 a2 a3 r2 x3 x3 μ1))
def f_M_areShort_B64 (N : Nat)  (k4 : Int32 → Int32 → Mm → Option (Int32 × Mm)) (v1 : Int32) (v2 : Int32) (μ : Mm) : Option (Int32 × Mm) :=
  let x14 := (v2 + (1 : Int32))
  k4 v1 x14 μ
def f_M_areShort_B57 (N : Nat)  (k4 : Int32 → Int32 → Mm → Option (Int32 × Mm)) (k14 : Int32 → Int32 → Int32 → Mm → Option (Int32 × Mm)) (v2 : Int32) (v3 : Int32) (s0 : Int32) (μ : Mm) : Option (Int32 × Mm) :=
  let x13 := (v3 + (1 : Int32))
  k14 s0 v2 x13 μ
def f_M_areShort_B56 (N : Nat)  (k4 : Int32 → Int32 → Mm → Option (Int32 × Mm)) (k14 : Int32 → Int32 → Int32 → Mm → Option (Int32 × Mm)) (v2 : Int32) (v3 : Int32) (μ : Mm) : Option (Int32 × Mm) :=
  f_M_areShort_B57 N k4 k14 v2 v3 (0 : Int32) μ
def f_M_areShort_B52 (N : Nat)  (k4 : Int32 → Int32 → Mm → Option (Int32 × Mm)) (k14 : Int32 → Int32 → Int32 → Mm → Option (Int32 × Mm)) (v2 : Int32) (v3 : Int32) (μ : Mm) : Option (Int32 × Mm) :=
  f_M_areShort_B57 N k4 k14 v2 v3 (1 : Int32) μ
def f_M_areShort_L14 (N : Nat)  (k4 : Int32 → Int32 → Mm → Option (Int32 × Mm)) : Nat → Int32 → Int32 → Int32 → Mm → Option (Int32 × Mm)
  | 0, _, _, _, _ => none
  | n + 1, v1, v2, v3, μ =>
    if v2 ≤ v3 then (
    f_M_areShort_B64 N k4 v1 v2 μ) else (
    if v1 = (0 : Int32) then (
    f_M_areShort_B56 N k4 (f_M_areShort_L14 N k4 n) v2 v3 μ) else (
    bn (f_M_goes N v2 μ) (fun r5 μ4 => 
    if r5 = (0 : Int32) then (
    f_M_areShort_B52 N k4 (f_M_areShort_L14 N k4 n) v2 v3 μ4) else (
    bn (f_M_goes N v3 μ4) (fun r8 μ7 => 
    if r8 = (0 : Int32) then (
    f_M_areShort_B52 N k4 (f_M_areShort_L14 N k4 n) v2 v3 μ7) else (
    bn (f_M_jointOf N v2 v3 μ7) (fun r11 μ10 => 
    if (0 : Int32) < (lg_cmp r11 (14400 : Int64)) then (
    f_M_areShort_B56 N k4 (f_M_areShort_L14 N k4 n) v2 v3 μ10) else (
    f_M_areShort_B52 N k4 (f_M_areShort_L14 N k4 n) v2 v3 μ10))))))))
def f_M_areShort_L4 (N : Nat)   : Nat → Int32 → Int32 → Mm → Option (Int32 × Mm)
  | 0, _, _, _ => none
  | n + 1, v1, v2, μ =>
    if (μ.1 0 15) ≤ v2 then (
    if zb v1 = true then some (v1, μ) else none) else (
    f_M_areShort_L14 N (f_M_areShort_L4 N n) N v1 v2 (0 : Int32) μ)
def f_M_areShort (N : Nat)  (μ : Mm) : Option (Int32 × Mm) :=
  f_M_areShort_L4 N N (1 : Int32) (0 : Int32) μ
def f_M_needTwo_B52 (N : Nat)    (μ : Mm) : Option (Int32 × Mm) :=
  bn (f_M_meets N ((1 : Int32)) μ) (fun r27 μ26 => 
  some (r27, μ26))
def f_M_needTwo (N : Nat) (a1 : Int32) (a2 : Int32) (a3 : Int32) (a4 : Int32) (μ : Mm) : Option (Int32 × Mm) :=
  bn (f_M_isWalker N a1 μ) (fun r2 μ1 => 
  if r2 = (0 : Int32) then (
  some ((-1 : Int32), μ1)) else (
  bn (f_M_isWalker N a2 μ1) (fun r5 μ4 => 
  if r5 = (0 : Int32) then (
  some ((-1 : Int32), μ4)) else (
  if a1 = a2 then (
  some ((-1 : Int32), μ4)) else (
  bn (f_M_in N a3 ((0 : Int32)) ((14399 : Int32)) μ4) (fun r9 μ8 => 
  if r9 = (0 : Int32) then (
  some ((-1 : Int32), μ8)) else (
  if ixb a1 8 = true then (
  if (μ8.1 16 (a1).toNatClampNeg) = (0 : Int32) then (
  if ixb a2 8 = true then (
  if (μ8.1 16 (a2).toNatClampNeg) = (0 : Int32) then (
  bn (f_M_goes N a1 μ8) (fun r14 μ13 => 
  if r14 = (0 : Int32) then (
  some ((-4 : Int32), μ13)) else (
  bn (f_M_goes N a2 μ13) (fun r17 μ16 => 
  if r17 = (0 : Int32) then (
  some ((-4 : Int32), μ16)) else (
  if a4 = (0 : Int32) then (
  bn (f_M_jointOf N a1 a2 μ16) (fun r21 μ20 => 
  if (lg_cmp r21 (14400 : Int64)) ≤ (0 : Int32) then (
  some ((0 : Int32), μ20)) else (
  some ((-6 : Int32), μ20)))) else (
  bn (f_M_areShort N μ16) (fun r24 μ23 => 
  if r24 = (0 : Int32) then (
  some ((-6 : Int32), μ23)) else (
  some ((0 : Int32), μ23))))))))) else (
  f_M_needTwo_B52 N μ8)) else none) else (
  f_M_needTwo_B52 N μ8)) else none)))))))
def f_M_meet (N : Nat) (a1 : Int32) (a2 : Int32) (a3 : Int32) (μ : Mm) : Option (Int32 × Mm) :=
  bn (f_M_needTwo N a1 a2 a3 ((0 : Int32)) μ) (fun r2 μ1 => 
  if (0 : Int32) ≤ r2 then (
  bn (f_M_meetFrom N a1 a2 (((a3).toInt64 * (27720 : Int64))) μ1) (fun r5 μ4 => 
  if (0 : Int32) ≤ (lg_cmp r5 (0 : Int64)) then (
  bn (f_M_fraction N r5 ((27720 : Int64)) ((1 : Int32)) μ4) (fun r8 μ7 => 
  some (r8, μ7))) else (
  some ((-9 : Int32), μ4)))) else (
  some (r2, μ1)))
def f_M_layWord_B235 (N : Nat)  (k46 : Int32 → Mm → Option Mm) (v3 : Int32) (μ : Mm) : Option Mm :=
  k46 v3 μ
def f_M_layWord_B228 (N : Nat)  (k46 : Int32 → Mm → Option Mm) (k168 : Int32 → Int32 → Mm → Option Mm) (v4 : Int32) (s0 : Int32) (μ : Mm) : Option Mm :=
  let x26 := (v4 + (1 : Int32))
  k168 s0 x26 μ
def f_M_layWord_B227 (N : Nat)  (k46 : Int32 → Mm → Option Mm) (k168 : Int32 → Int32 → Mm → Option Mm) (v3 : Int32) (v4 : Int32) (μ : Mm) : Option Mm :=
  f_M_layWord_B228 N k46 k168 v4 v3 μ
def f_M_layWord_B222 (N : Nat)  (k46 : Int32 → Mm → Option Mm) (k168 : Int32 → Int32 → Mm → Option Mm) (v4 : Int32) (μ : Mm) : Option Mm :=
  f_M_layWord_B228 N k46 k168 v4 v4 μ
def f_M_layWord_L168 (N : Nat)  (k46 : Int32 → Mm → Option Mm) : Nat → Int32 → Int32 → Mm → Option Mm
  | 0, _, _, _ => none
  | n + 1, v3, v4, μ =>
    if (μ.1 0 15) ≤ v4 then (
    f_M_layWord_B235 N k46 v3 μ) else (
    if ixb v4 8 = true then (
    if (μ.1 23 (v4).toNatClampNeg) = (0 : Int32) then (
    if ixb v4 8 = true then (
    if (lg_cmp (μ.2 22 (v4).toNatClampNeg) (0 : Int64)) < (0 : Int32) then (
    f_M_layWord_B227 N k46 (f_M_layWord_L168 N k46 n) v3 v4 μ) else (
    if v3 = (-9 : Int32) then (
    f_M_layWord_B222 N k46 (f_M_layWord_L168 N k46 n) v4 μ) else (
    if ixb v4 8 = true then (
    if ixb v3 8 = true then (
    if (0 : Int32) ≤ (lg_cmp (μ.2 22 (v4).toNatClampNeg) (μ.2 22 (v3).toNatClampNeg)) then (
    f_M_layWord_B227 N k46 (f_M_layWord_L168 N k46 n) v3 v4 μ) else (
    f_M_layWord_B222 N k46 (f_M_layWord_L168 N k46 n) v4 μ)) else none) else none))) else none) else (
    f_M_layWord_B227 N k46 (f_M_layWord_L168 N k46 n) v3 v4 μ)) else none)
def f_M_layWord_B162 (N : Nat)  (k46 : Int32 → Mm → Option Mm)  (μ : Mm) : Option Mm :=
  f_M_layWord_L168 N k46 N (-9 : Int32) (0 : Int32) μ
def f_M_layWord_B156 (N : Nat)  (k46 : Int32 → Mm → Option Mm) (k62 : Int32 → Int32 → Mm → Option Mm) (v3 : Int32) (v4 : Int32) (μ : Mm) : Option Mm :=
  let x20 := (v4 + (1 : Int32))
  k62 v3 x20 μ
def f_M_layWord_B155 (N : Nat)  (k46 : Int32 → Mm → Option Mm) (k62 : Int32 → Int32 → Mm → Option Mm) (v3 : Int32) (v4 : Int32) (s1 : Int32) (s2 : Int64) (μ : Mm) : Option Mm :=
  if ixb s1 8 = true then (
  let μ19 := sL μ 22 (s1).toNatClampNeg s2
  f_M_layWord_B156 N k46 k62 v3 v4 μ19) else none
def f_M_layWord_B148 (N : Nat)  (k46 : Int32 → Mm → Option Mm) (k62 : Int32 → Int32 → Mm → Option Mm) (v3 : Int32) (v4 : Int32) (s1 : Int32) (μ : Mm) : Option Mm :=
  if ixb v4 8 = true then (
  f_M_layWord_B155 N k46 k62 v3 v4 s1 (μ.2 22 (v4).toNatClampNeg) μ) else none
def f_M_layWord_B143 (N : Nat)  (k46 : Int32 → Mm → Option Mm) (k62 : Int32 → Int32 → Mm → Option Mm) (v3 : Int32) (v4 : Int32) (v5 : Int64) (s1 : Int32) (μ : Mm) : Option Mm :=
  f_M_layWord_B155 N k46 k62 v3 v4 s1 v5 μ
def f_M_layWord_L62 (N : Nat)  (k46 : Int32 → Mm → Option Mm) : Nat → Int32 → Int32 → Mm → Option Mm
  | 0, _, _, _ => none
  | n + 1, v3, v4, μ =>
    if (μ.1 0 15) ≤ v4 then (
    f_M_layWord_B162 N k46 μ) else (
    bn (f_M_goes N v4 μ) (fun r11 μ10 => 
    if r11 = (0 : Int32) then (
    f_M_layWord_B156 N k46 (f_M_layWord_L62 N k46 n) v3 v4 μ10) else (
    if ixb v4 8 = true then (
    if (μ10.1 23 (v4).toNatClampNeg) = (0 : Int32) then (
    if ixb v3 8 = true then (
    bn (f_M_meetFrom N v3 v4 ((μ10.2 22 (v3).toNatClampNeg)) μ10) (fun r15 μ14 => 
    if (lg_cmp r15 (0 : Int64)) < (0 : Int32) then (
    f_M_layWord_B148 N k46 (f_M_layWord_L62 N k46 n) v3 v4 v4 μ14) else (
    if ixb v4 8 = true then (
    if (lg_cmp (μ14.2 22 (v4).toNatClampNeg) (0 : Int64)) < (0 : Int32) then (
    f_M_layWord_B143 N k46 (f_M_layWord_L62 N k46 n) v3 v4 r15 v4 μ14) else (
    if ixb v4 8 = true then (
    if (0 : Int32) ≤ (lg_cmp r15 (μ14.2 22 (v4).toNatClampNeg)) then (
    f_M_layWord_B148 N k46 (f_M_layWord_L62 N k46 n) v3 v4 v4 μ14) else (
    f_M_layWord_B143 N k46 (f_M_layWord_L62 N k46 n) v3 v4 r15 v4 μ14)) else none)) else none))) else none) else (
    f_M_layWord_B156 N k46 (f_M_layWord_L62 N k46 n) v3 v4 μ10)) else none)))
def f_M_layWord_L46 (N : Nat)   : Nat → Int32 → Mm → Option Mm
  | 0, _, _ => none
  | n + 1, v3, μ =>
    if v3 = (-9 : Int32) then (
    some μ) else (
    if ixb v3 8 = true then (
    let μ8 := sI μ 23 (v3).toNatClampNeg (vp_nar .boolean (1 : Int32))
    f_M_layWord_L62 N (f_M_layWord_L46 N n) N v3 (0 : Int32) μ8) else none)
def f_M_layWord_B32 (N : Nat)   (v1 : Int32) (v2 : Int32) (μ : Mm) : Option Mm :=
  let x5 := ((v1).toInt64 * (27720 : Int64))
  if ixb v2 8 = true then (
  let μ6 := sL μ 22 (v2).toNatClampNeg x5
  f_M_layWord_L46 N N v2 μ6) else none
def f_M_layWord_L2 (N : Nat)   : Nat → Int32 → Int32 → Int32 → Mm → Option Mm
  | 0, _, _, _, _ => none
  | n + 1, v1, v2, v3, μ =>
    if (μ.1 0 15) ≤ v3 then (
    f_M_layWord_B32 N v1 v2 μ) else (
    if ixb v3 8 = true then (
    let μ2 := sL μ 22 (v3).toNatClampNeg (-1 : Int64)
    if ixb v3 8 = true then (
    let μ3 := sI μ2 23 (v3).toNatClampNeg (vp_nar .boolean (0 : Int32))
    let x4 := (v3 + (1 : Int32))
    (f_M_layWord_L2 N n) v1 v2 x4 μ3) else none) else none)
def f_M_layWord (N : Nat) (a1 : Int32) (a2 : Int32) (μ : Mm) : Option Mm :=
  f_M_layWord_L2 N N a1 a2 (0 : Int32) μ
def f_M_needOne (N : Nat) (a1 : Int32) (a2 : Int32) (μ : Mm) : Option (Int32 × Mm) :=
  bn (f_M_in N a2 ((0 : Int32)) ((14399 : Int32)) μ) (fun r2 μ1 => 
  bn (f_M_need N r2 a1 μ1) (fun r4 μ3 => 
  if (0 : Int32) ≤ r4 then (
  bn (f_M_goes N a1 μ3) (fun r7 μ6 => 
  if r7 = (0 : Int32) then (
  some ((-4 : Int32), μ6)) else (
  bn (f_M_areShort N μ6) (fun r10 μ9 => 
  if r10 = (0 : Int32) then (
  some ((-6 : Int32), μ9)) else (
  some ((0 : Int32), μ9)))))) else (
  some (r4, μ3))))
def f_M_word (N : Nat) (a1 : Int32) (a2 : Int32) (a3 : Int32) (μ : Mm) : Option (Int32 × Mm) :=
  if a1 = a3 then (
  bn (f_M_needOne N a1 a2 μ) (fun r3 μ2 => 
  if (0 : Int32) ≤ r3 then (
  bn (f_M_fraction N (((a2).toInt64)) ((1 : Int64)) ((1 : Int32)) μ2) (fun r6 μ5 => 
  some (r6, μ5))) else (
  some (r3, μ2)))) else (
  bn (f_M_needTwo N a1 a3 a2 ((1 : Int32)) μ) (fun r8 μ7 => 
  if (0 : Int32) ≤ r8 then (
  bv (f_M_layWord N a2 a1 μ7) (fun μ10 => 
  if ixb a3 8 = true then (
  if (0 : Int32) ≤ (lg_cmp (μ10.2 22 (a3).toNatClampNeg) (0 : Int64)) then (
  if ixb a3 8 = true then (
  bn (f_M_fraction N ((μ10.2 22 (a3).toNatClampNeg)) ((27720 : Int64)) ((1 : Int32)) μ10) (fun r13 μ12 => 
  some (r13, μ12))) else none) else (
  some ((-9 : Int32), μ10))) else none)) else (
  some (r8, μ7))))
def f_M_spread_B53 (N : Nat)  (k25 : Int32 → Int32 → Mm → Option (Int32 × Mm)) (v5 : Int32) (s0 : Int32) (s1 : Int32) (μ : Mm) : Option (Int32 × Mm) :=
  let x7 := (s0 + s1)
  let x8 := (v5 + (1 : Int32))
  k25 x7 x8 μ
def f_M_spread_L25 (N : Nat)   : Nat → Int32 → Int32 → Mm → Option (Int32 × Mm)
  | 0, _, _, _ => none
  | n + 1, v4, v5, μ =>
    if (μ.1 0 15) ≤ v5 then (
    some (v4, μ)) else (
    if ixb v5 8 = true then (
    if (lg_cmp (μ.2 22 (v5).toNatClampNeg) (0 : Int64)) < (0 : Int32) then (
    f_M_spread_B53 N (f_M_spread_L25 N n) v5 v4 (0 : Int32) μ) else (
    f_M_spread_B53 N (f_M_spread_L25 N n) v5 v4 (1 : Int32) μ)) else none)
def f_M_spread (N : Nat) (a1 : Int32) (a2 : Int32) (μ : Mm) : Option (Int32 × Mm) :=
  bn (f_M_needOne N a1 a2 μ) (fun r2 μ1 => 
  if (0 : Int32) ≤ r2 then (
  bv (f_M_layWord N a2 a1 μ1) (fun μ4 => 
  f_M_spread_L25 N N (0 : Int32) (0 : Int32) μ4)) else (
  some (r2, μ1)))
def f_M_restOf (N : Nat) (a1 : Int32) (a2 : Int32) (μ : Mm) : Option (Int32 × Mm) :=
  let x1 := (((10 : Int32) * a1) + a2)
  if ixb x1 10240 = true then (
  some ((μ.1 25 (x1).toNatClampNeg), μ)) else none
def f_M_hop (N : Nat) (a1 : Int32) (a2 : Int32) (μ : Mm) : Option (Int32 × Mm) :=
  if ixb a1 10 = true then (
  if ixb a2 10 = true then (
  let x1 := (((16 : Int32) * (μ.1 24 (a1).toNatClampNeg)) + (μ.1 24 (a2).toNatClampNeg))
  if ixb x1 256 = true then (
  some ((μ.1 9 (x1).toNatClampNeg), μ)) else none) else none) else none
def f_M_layRound_B228 (N : Nat)  (k92 : Int32 → Mm → Option (Int32 × Mm)) (v2 : Int32) (μ : Mm) : Option (Int32 × Mm) :=
  let x30 := (v2 + (1 : Int32))
  k92 x30 μ
def f_M_layRound_B221 (N : Nat)  (k92 : Int32 → Mm → Option (Int32 × Mm)) (k104 : Int32 → Int32 → Mm → Option (Int32 × Mm)) (v2 : Int32) (v3 : Int32) (s1 : Int32) (s2 : Int32) (μ : Mm) : Option (Int32 × Mm) :=
  if ixb s1 10240 = true then (
  let μ28 := sI μ 25 (s1).toNatClampNeg s2
  let x29 := (v3 + (1 : Int32))
  k104 v2 x29 μ28) else none
def f_M_layRound_B197 (N : Nat)  (k92 : Int32 → Mm → Option (Int32 × Mm)) (k104 : Int32 → Int32 → Mm → Option (Int32 × Mm)) (v2 : Int32) (v3 : Int32) (v4 : Int32) (μ : Mm) : Option (Int32 × Mm) :=
  if v4 ≤ (1000000 : Int32) then (
  f_M_layRound_B221 N k92 k104 v2 v3 (((10 : Int32) * v2) + v3) v4 μ) else (
  f_M_layRound_B221 N k92 k104 v2 v3 (((10 : Int32) * v2) + v3) (1000000 : Int32) μ)
def f_M_layRound_B191 (N : Nat)  (k92 : Int32 → Mm → Option (Int32 × Mm)) (k104 : Int32 → Int32 → Mm → Option (Int32 × Mm)) (k132 : Int32 → Int32 → Int32 → Int32 → Mm → Option (Int32 × Mm)) (v2 : Int32) (v3 : Int32) (v4 : Int32) (v5 : Int32) (μ : Mm) : Option (Int32 × Mm) :=
  let x26 := (v5 + (1 : Int32))
  k132 v2 v3 v4 x26 μ
def f_M_layRound_B189 (N : Nat)  (k92 : Int32 → Mm → Option (Int32 × Mm)) (k104 : Int32 → Int32 → Mm → Option (Int32 × Mm)) (k132 : Int32 → Int32 → Int32 → Int32 → Mm → Option (Int32 × Mm)) (v2 : Int32) (v3 : Int32) (v5 : Int32) (s0 : Int32) (μ : Mm) : Option (Int32 × Mm) :=
  f_M_layRound_B191 N k92 k104 k132 v2 v3 s0 v5 μ
def f_M_layRound_L132 (N : Nat)  (k92 : Int32 → Mm → Option (Int32 × Mm)) (k104 : Int32 → Int32 → Mm → Option (Int32 × Mm)) : Nat → Int32 → Int32 → Int32 → Int32 → Mm → Option (Int32 × Mm)
  | 0, _, _, _, _, _ => none
  | n + 1, v2, v3, v4, v5, μ =>
    if (μ.1 0 46) ≤ v5 then (
    f_M_layRound_B197 N k92 k104 v2 v3 v4 μ) else (
    if ((v2 >>> (v5 &&& 31)) &&& (1 : Int32)) = (1 : Int32) then (
    bn (f_M_hop N v3 v5 μ) (fun r21 μ20 => 
    bn (f_M_restOf N ((v2 &&& (((1 : Int32) <<< (v5 &&& 31)) ^^^ (-1 : Int32)))) v5 μ20) (fun r23 μ22 => 
    let x24 := (r21 + r23)
    if v4 ≤ x24 then (
    f_M_layRound_B189 N k92 k104 (f_M_layRound_L132 N k92 k104 n) v2 v3 v5 v4 μ22) else (
    f_M_layRound_B189 N k92 k104 (f_M_layRound_L132 N k92 k104 n) v2 v3 v5 x24 μ22)))) else (
    f_M_layRound_B191 N k92 k104 (f_M_layRound_L132 N k92 k104 n) v2 v3 v4 v5 μ))
def f_M_layRound_B127 (N : Nat)  (k92 : Int32 → Mm → Option (Int32 × Mm)) (k104 : Int32 → Int32 → Mm → Option (Int32 × Mm)) (v2 : Int32) (v3 : Int32) (s0 : Int32) (μ : Mm) : Option (Int32 × Mm) :=
  f_M_layRound_L132 N k92 k104 N v2 v3 s0 (0 : Int32) μ
def f_M_layRound_L104 (N : Nat)  (k92 : Int32 → Mm → Option (Int32 × Mm)) : Nat → Int32 → Int32 → Mm → Option (Int32 × Mm)
  | 0, _, _, _ => none
  | n + 1, v2, v3, μ =>
    if (μ.1 0 46) ≤ v3 then (
    f_M_layRound_B228 N k92 v2 μ) else (
    if v2 = (0 : Int32) then (
    bn (f_M_hop N v3 ((0 : Int32)) μ) (fun r17 μ16 => 
    f_M_layRound_B127 N k92 (f_M_layRound_L104 N k92 n) v2 v3 r17 μ16)) else (
    f_M_layRound_B127 N k92 (f_M_layRound_L104 N k92 n) v2 v3 (1000000 : Int32) μ))
def f_M_layRound_L92 (N : Nat)   : Nat → Int32 → Mm → Option (Int32 × Mm)
  | 0, _, _ => none
  | n + 1, v2, μ =>
    if ((1 : Int32) <<< ((μ.1 0 46) &&& 31)) ≤ v2 then (
    some ((1 : Int32), μ)) else (
    f_M_layRound_L104 N (f_M_layRound_L92 N n) N v2 (0 : Int32) μ)
def f_M_layRound_B78 (N : Nat)   (v1 : Int32) (μ : Mm) : Option (Int32 × Mm) :=
  if v1 ≤ (10 : Int32) then (
  bv (f_M_layFars N μ) (fun μ12 => 
  f_M_layRound_L92 N N (0 : Int32) μ12)) else (
  some ((0 : Int32), μ))
def f_M_layRound_B72 (N : Nat)  (k9 : Int32 → Int32 → Mm → Option (Int32 × Mm)) (v1 : Int32) (v2 : Int32) (μ : Mm) : Option (Int32 × Mm) :=
  let x10 := (v2 + (1 : Int32))
  k9 v1 x10 μ
def f_M_layRound_B32 (N : Nat)  (k9 : Int32 → Int32 → Mm → Option (Int32 × Mm)) (v2 : Int32) (s0 : Int32) (s1 : Int32) (μ : Mm) : Option (Int32 × Mm) :=
  let x4 := (s0 + s1)
  if ixb v2 16 = true then (
  if (μ.1 7 (v2).toNatClampNeg) ≤ (0 : Int32) then (
  f_M_layRound_B72 N k9 x4 v2 μ) else (
  if (10 : Int32) ≤ (μ.1 0 46) then (
  f_M_layRound_B72 N k9 x4 v2 μ) else (
  let x7 := (μ.1 0 46)
  if ixb x7 10 = true then (
  let μ8 := sI μ 24 (x7).toNatClampNeg v2
  let μ9 := sI μ8 0 46 ((μ8.1 0 46) + (1 : Int32))
  f_M_layRound_B72 N k9 x4 v2 μ9) else none))) else none
def f_M_layRound_L9 (N : Nat)   : Nat → Int32 → Int32 → Mm → Option (Int32 × Mm)
  | 0, _, _, _ => none
  | n + 1, v1, v2, μ =>
    if (μ.1 0 9) ≤ v2 then (
    f_M_layRound_B78 N v1 μ) else (
    if ixb v2 16 = true then (
    if (μ.1 7 (v2).toNatClampNeg) ≤ (0 : Int32) then (
    f_M_layRound_B32 N (f_M_layRound_L9 N n) v2 v1 (0 : Int32) μ) else (
    f_M_layRound_B32 N (f_M_layRound_L9 N n) v2 v1 (1 : Int32) μ)) else none)
def f_M_layRound (N : Nat)  (μ : Mm) : Option (Int32 × Mm) :=
  let μ1 := sI μ 0 46 (0 : Int32)
  f_M_layRound_L9 N N (0 : Int32) (0 : Int32) μ1
def f_M_roundLength (N : Nat)  (μ : Mm) : Option (Int32 × Mm) :=
  if (2 : Int32) ≤ (μ.1 0 46) then (
  bn (f_M_restOf N ((((1 : Int32) <<< ((μ.1 0 46) &&& 31)) - (2 : Int32))) ((0 : Int32)) μ) (fun r3 μ2 => 
  some (r3, μ2))) else (
  some ((0 : Int32), μ))
def f_M_round (N : Nat)  (μ : Mm) : Option (Int32 × Mm) :=
  bn (f_M_layRound N μ) (fun r2 μ1 => 
  if r2 = (0 : Int32) then (
  some ((-4 : Int32), μ1)) else (
  bn (f_M_roundLength N μ1) (fun r5 μ4 => 
  if r5 < (1000000 : Int32) then (
  some (r5, μ4)) else (
  some ((-9 : Int32), μ4)))))
def f_M_roundAt_B123 (N : Nat)   (v3 : Int32) (μ : Mm) : Option (Int32 × Mm) :=
  if ixb v3 10 = true then (
  some ((μ.1 24 (v3).toNatClampNeg), μ)) else none
def f_M_roundAt_B105 (N : Nat)  (k50 : Int32 → Int32 → Int32 → Int32 → Mm → Option (Int32 × Mm)) (v1 : Int32) (v2 : Int32) (v4 : Int32) (v5 : Int32) (μ : Mm) : Option (Int32 × Mm) :=
  let x20 := (v2 &&& (((1 : Int32) <<< (v5 &&& 31)) ^^^ (-1 : Int32)))
  let x21 := (v4 + (1 : Int32))
  k50 v1 x20 v5 x21 μ
def f_M_roundAt_B99 (N : Nat)  (k50 : Int32 → Int32 → Int32 → Int32 → Mm → Option (Int32 × Mm)) (k59 : Int32 → Int32 → Int32 → Int32 → Int32 → Mm → Option (Int32 × Mm)) (v1 : Int32) (v2 : Int32) (v3 : Int32) (v4 : Int32) (v5 : Int32) (μ : Mm) : Option (Int32 × Mm) :=
  let x22 := (v5 + (1 : Int32))
  k59 v1 v2 v3 v4 x22 μ
def f_M_roundAt_L59 (N : Nat)  (k50 : Int32 → Int32 → Int32 → Int32 → Mm → Option (Int32 × Mm)) : Nat → Int32 → Int32 → Int32 → Int32 → Int32 → Mm → Option (Int32 × Mm)
  | 0, _, _, _, _, _, _ => none
  | n + 1, v1, v2, v3, v4, v5, μ =>
    if ((v2 >>> (v5 &&& 31)) &&& (1 : Int32)) = (0 : Int32) then (
    f_M_roundAt_B99 N k50 (f_M_roundAt_L59 N k50 n) v1 v2 v3 v4 v5 μ) else (
    bn (f_M_hop N v3 v5 μ) (fun r14 μ13 => 
    bn (f_M_restOf N ((v2 &&& (((1 : Int32) <<< (v5 &&& 31)) ^^^ (-1 : Int32)))) v5 μ13) (fun r16 μ15 => 
    bn (f_M_restOf N v2 v3 μ15) (fun r18 μ17 => 
    if (r14 + r16) = r18 then (
    f_M_roundAt_B105 N k50 v1 v2 v4 v5 μ17) else (
    f_M_roundAt_B99 N k50 (f_M_roundAt_L59 N k50 n) v1 v2 v3 v4 v5 μ17)))))
def f_M_roundAt_L50 (N : Nat)   : Nat → Int32 → Int32 → Int32 → Int32 → Mm → Option (Int32 × Mm)
  | 0, _, _, _, _, _ => none
  | n + 1, v1, v2, v3, v4, μ =>
    if v1 ≤ v4 then (
    f_M_roundAt_B123 N v3 μ) else (
    f_M_roundAt_L59 N (f_M_roundAt_L50 N n) N v1 v2 v3 v4 (0 : Int32) μ)
def f_M_roundAt (N : Nat) (a1 : Int32) (μ : Mm) : Option (Int32 × Mm) :=
  bn (f_M_layRound N μ) (fun r2 μ1 => 
  if r2 = (0 : Int32) then (
  some ((-4 : Int32), μ1)) else (
  bn (f_M_in N a1 ((0 : Int32)) (((μ1.1 0 46) - (1 : Int32))) μ1) (fun r5 μ4 => 
  if r5 = (0 : Int32) then (
  some ((-9 : Int32), μ4)) else (
  bn (f_M_roundLength N μ4) (fun r8 μ7 => 
  if r8 < (1000000 : Int32) then (
  let x10 := (((1 : Int32) <<< ((μ7.1 0 46) &&& 31)) - (2 : Int32))
  f_M_roundAt_L50 N N a1 x10 (0 : Int32) (0 : Int32) μ7) else (
  some ((-9 : Int32), μ7)))))))
def f_M_part_B225 (N : Nat) (kr : Int32 → Int32 → Int32 → Int32 → Int32 → Mm → Option Mm)  (k69 : Int32 → Int32 → Int32 → Int32 → Int32 → Int32 → Mm → Option Mm) (v1 : Int32) (v2 : Int32) (v3 : Int32) (v4 : Int32) (v5 : Int32) (v6 : Int32) (μ : Mm) : Option Mm :=
  let x21 := (v6 + (1 : Int32))
  k69 v1 v2 v3 v4 v5 x21 μ
def f_M_part_B222 (N : Nat) (kr : Int32 → Int32 → Int32 → Int32 → Int32 → Mm → Option Mm)  (k69 : Int32 → Int32 → Int32 → Int32 → Int32 → Int32 → Mm → Option Mm) (v1 : Int32) (v2 : Int32) (v3 : Int32) (v4 : Int32) (v5 : Int32) (v6 : Int32) (s1 : Int32) (s2 : Int32) (s3 : Int32) (s4 : Int32) (s5 : Int32) (μ : Mm) : Option Mm :=
  bv (kr s1 s2 s3 s4 s5 μ) (fun μ20 => 
  f_M_part_B225 N kr k69 v1 v2 v3 v4 v5 v6 μ20)
def f_M_part_B163 (N : Nat) (kr : Int32 → Int32 → Int32 → Int32 → Int32 → Mm → Option Mm)  (k69 : Int32 → Int32 → Int32 → Int32 → Int32 → Int32 → Mm → Option Mm) (v1 : Int32) (v2 : Int32) (v3 : Int32) (v4 : Int32) (v5 : Int32) (v6 : Int32) (s0 : Int32) (μ : Mm) : Option Mm :=
  if ixb v6 5 = true then (
  bn (f_M_unitOf N ((μ.1 26 (v6).toNatClampNeg)) μ) (fun r16 μ15 => 
  let x17 := (((2 : Int32) * s0) * r16)
  if ixb v1 16 = true then (
  let μ18 := sI μ15 27 (v1).toNatClampNeg v6
  if x17 ≤ v5 then (
  f_M_part_B222 N kr k69 v1 v2 v3 v4 v5 v6 (v1 + (1 : Int32)) v6 s0 (v4 &&& (((1 : Int32) <<< (v6 &&& 31)) ^^^ (-1 : Int32))) v5 μ18) else (
  f_M_part_B222 N kr k69 v1 v2 v3 v4 v5 v6 (v1 + (1 : Int32)) v6 s0 (v4 &&& (((1 : Int32) <<< (v6 &&& 31)) ^^^ (-1 : Int32))) x17 μ18)) else none)) else none
def f_M_part_B139 (N : Nat) (kr : Int32 → Int32 → Int32 → Int32 → Int32 → Mm → Option Mm)  (k69 : Int32 → Int32 → Int32 → Int32 → Int32 → Int32 → Mm → Option Mm) (v1 : Int32) (v2 : Int32) (v3 : Int32) (v4 : Int32) (v5 : Int32) (v6 : Int32) (v7 : Int32) (μ : Mm) : Option Mm :=
  if v7 = (0 : Int32) then (
  f_M_part_B163 N kr k69 v1 v2 v3 v4 v5 v6 (0 : Int32) μ) else (
  let x14 := (((16 : Int32) * (v1 - (1 : Int32))) + v1)
  if ixb x14 256 = true then (
  f_M_part_B163 N kr k69 v1 v2 v3 v4 v5 v6 (v3 + (μ.1 5 (x14).toNatClampNeg)) μ) else none)
def f_M_part_B127 (N : Nat) (kr : Int32 → Int32 → Int32 → Int32 → Int32 → Mm → Option Mm)  (k69 : Int32 → Int32 → Int32 → Int32 → Int32 → Int32 → Mm → Option Mm) (v1 : Int32) (v2 : Int32) (v3 : Int32) (v4 : Int32) (v5 : Int32) (v6 : Int32) (v7 : Int32) (s0 : Int32) (μ : Mm) : Option Mm :=
  if v7 = (0 : Int32) then (
  if s0 = (0 : Int32) then (
  f_M_part_B225 N kr k69 v1 v2 v3 v4 v5 v6 μ) else (
  f_M_part_B139 N kr k69 v1 v2 v3 v4 v5 v6 v7 μ)) else (
  f_M_part_B139 N kr k69 v1 v2 v3 v4 v5 v6 v7 μ)
def f_M_part_B109 (N : Nat) (kr : Int32 → Int32 → Int32 → Int32 → Int32 → Mm → Option Mm)  (k69 : Int32 → Int32 → Int32 → Int32 → Int32 → Int32 → Mm → Option Mm) (v1 : Int32) (v2 : Int32) (v3 : Int32) (v4 : Int32) (v5 : Int32) (v6 : Int32) (s0 : Int32) (μ : Mm) : Option Mm :=
  if ((v4 >>> (v6 &&& 31)) &&& (1 : Int32)) = (1 : Int32) then (
  f_M_part_B127 N kr k69 v1 v2 v3 v4 v5 v6 s0 (1 : Int32) μ) else (
  f_M_part_B127 N kr k69 v1 v2 v3 v4 v5 v6 s0 (0 : Int32) μ)
def f_M_part_B108 (N : Nat) (kr : Int32 → Int32 → Int32 → Int32 → Int32 → Mm → Option Mm)  (k69 : Int32 → Int32 → Int32 → Int32 → Int32 → Int32 → Mm → Option Mm) (v1 : Int32) (v2 : Int32) (v3 : Int32) (v4 : Int32) (v5 : Int32) (v6 : Int32) (μ : Mm) : Option Mm :=
  f_M_part_B109 N kr k69 v1 v2 v3 v4 v5 v6 (0 : Int32) μ
def f_M_part_L69 (N : Nat) (kr : Int32 → Int32 → Int32 → Int32 → Int32 → Mm → Option Mm)   : Nat → Int32 → Int32 → Int32 → Int32 → Int32 → Int32 → Mm → Option Mm
  | 0, _, _, _, _, _, _, _ => none
  | n + 1, v1, v2, v3, v4, v5, v6, μ =>
    if (μ.1 0 49) ≤ v6 then (
    some μ) else (
    if v6 = v2 then (
    if v1 ≤ (0 : Int32) then (
    f_M_part_B108 N kr (f_M_part_L69 N kr n) v1 v2 v3 v4 v5 v6 μ) else (
    let x8 := (((16 : Int32) * (v1 - (1 : Int32))) + v1)
    if ixb x8 256 = true then (
    if (μ.1 6 (x8).toNatClampNeg) = (0 : Int32) then (
    f_M_part_B109 N kr (f_M_part_L69 N kr n) v1 v2 v3 v4 v5 v6 (1 : Int32) μ) else (
    f_M_part_B108 N kr (f_M_part_L69 N kr n) v1 v2 v3 v4 v5 v6 μ)) else none)) else (
    f_M_part_B108 N kr (f_M_part_L69 N kr n) v1 v2 v3 v4 v5 v6 μ))
def f_M_part_L36 (N : Nat) (kr : Int32 → Int32 → Int32 → Int32 → Int32 → Mm → Option Mm)   : Nat → Int32 → Mm → Option Mm
  | 0, _, _ => none
  | n + 1, v6, μ =>
    if (μ.1 0 9) ≤ v6 then (
    some μ) else (
    if ixb v6 16 = true then (
    let x23 := (μ.1 27 (v6).toNatClampNeg)
    if ixb v6 16 = true then (
    let μ24 := sI μ 28 (v6).toNatClampNeg x23
    let x25 := (v6 + (1 : Int32))
    (f_M_part_L36 N kr n) x25 μ24) else none) else none)
def f_M_part_B19 (N : Nat) (kr : Int32 → Int32 → Int32 → Int32 → Int32 → Mm → Option Mm)   (v1 : Int32) (v2 : Int32) (v3 : Int32) (v4 : Int32) (v5 : Int32) (μ : Mm) : Option Mm :=
  if v1 = (μ.1 0 9) then (
  let μ4 := sI μ 0 53 v5
  f_M_part_L36 N kr N (0 : Int32) μ4) else (
  f_M_part_L69 N kr N v1 v2 v3 v4 v5 (0 : Int32) μ)
def f_M_part_b (N : Nat) (kr : Int32 → Int32 → Int32 → Int32 → Int32 → Mm → Option Mm) (a1 : Int32) (a2 : Int32) (a3 : Int32) (a4 : Int32) (a5 : Int32) (μ : Mm) : Option Mm :=
  if (μ.1 0 53) = (-9 : Int32) then (
  f_M_part_B19 N kr a1 a2 a3 a4 a5 μ) else (
  if a5 < (μ.1 0 53) then (
  f_M_part_B19 N kr a1 a2 a3 a4 a5 μ) else (
  some μ))
def f_M_part (N : Nat) : Nat → Int32 → Int32 → Int32 → Int32 → Int32 → Mm → Option Mm
  | 0, _, _, _, _, _, _ => none
  | n + 1, a1, a2, a3, a4, a5, μ => f_M_part_b N (f_M_part N n) a1 a2 a3 a4 a5 μ
def f_M_parting_B227 (N : Nat)    (μ : Mm) : Option (Int32 × Mm) :=
  some ((μ.1 0 53), μ)
def f_M_parting_B213 (N : Nat)  (k167 : Int32 → Mm → Option (Int32 × Mm)) (v1 : Int32) (v2 : Int32) (s1 : Int32) (s2 : Int32) (μ : Mm) : Option (Int32 × Mm) :=
  if ixb s1 8 = true then (
  let μ26 := sI μ 29 (s1).toNatClampNeg s2
  if ixb v2 8 = true then (
  let μ27 := sI μ26 30 (v2).toNatClampNeg v1
  let x28 := (v1 + (1 : Int32))
  k167 x28 μ27) else none) else none
def f_M_parting_L167 (N : Nat)   : Nat → Int32 → Mm → Option (Int32 × Mm)
  | 0, _, _ => none
  | n + 1, v1, μ =>
    if (μ.1 0 9) ≤ v1 then (
    f_M_parting_B227 N μ) else (
    if ixb v1 16 = true then (
    let x23 := (μ.1 28 (v1).toNatClampNeg)
    if ixb x23 5 = true then (
    let x24 := (μ.1 26 (x23).toNatClampNeg)
    if ixb x24 8 = true then (
    if (μ.1 29 (x24).toNatClampNeg) = (-9 : Int32) then (
    f_M_parting_B213 N (f_M_parting_L167 N n) v1 x24 x24 v1 μ) else (
    if ixb x24 8 = true then (
    f_M_parting_B213 N (f_M_parting_L167 N n) v1 x24 x24 (μ.1 29 (x24).toNatClampNeg) μ) else none)) else none) else none) else none)
def f_M_parting_B165 (N : Nat)    (μ : Mm) : Option (Int32 × Mm) :=
  f_M_parting_L167 N N (0 : Int32) μ
def f_M_parting_L137 (N : Nat)   : Nat → Int32 → Mm → Option (Int32 × Mm)
  | 0, _, _ => none
  | n + 1, v1, μ =>
    if (8 : Int32) ≤ v1 then (
    f_M_parting_B165 N μ) else (
    if ixb v1 8 = true then (
    let μ19 := sI μ 29 (v1).toNatClampNeg (-9 : Int32)
    if ixb v1 8 = true then (
    let μ20 := sI μ19 30 (v1).toNatClampNeg (-9 : Int32)
    let x21 := (v1 + (1 : Int32))
    (f_M_parting_L137 N n) x21 μ20) else none) else none)
def f_M_parting_B90 (N : Nat)    (μ : Mm) : Option (Int32 × Mm) :=
  if (μ.1 0 49) = (0 : Int32) then (
  some ((-4 : Int32), μ)) else (
  let μ15 := sI μ 0 53 (-9 : Int32)
  bv (f_M_part N 40 ((0 : Int32)) ((-9 : Int32)) ((0 : Int32)) ((((1 : Int32) <<< ((μ15.1 0 49) &&& 31)) - (1 : Int32))) ((0 : Int32)) μ15) (fun μ16 => 
  if (μ16.1 0 53) = (-9 : Int32) then (
  some ((-4 : Int32), μ16)) else (
  f_M_parting_L137 N N (0 : Int32) μ16)))
def f_M_parting_B84 (N : Nat)  (k20 : Int32 → Mm → Option (Int32 × Mm)) (v1 : Int32) (μ : Mm) : Option (Int32 × Mm) :=
  let x13 := (v1 + (1 : Int32))
  k20 x13 μ
def f_M_parting_L20 (N : Nat)   : Nat → Int32 → Mm → Option (Int32 × Mm)
  | 0, _, _ => none
  | n + 1, v1, μ =>
    if (μ.1 0 15) ≤ v1 then (
    f_M_parting_B90 N μ) else (
    if ixb v1 8 = true then (
    if (μ.1 16 (v1).toNatClampNeg) = (0 : Int32) then (
    if ixb v1 8 = true then (
    if (μ.1 15 (v1).toNatClampNeg) = (0 : Int32) then (
    if ixb v1 8 = true then (
    if (μ.1 10 (v1).toNatClampNeg) = (3 : Int32) then (
    f_M_parting_B84 N (f_M_parting_L20 N n) v1 μ) else (
    if (5 : Int32) ≤ (μ.1 0 49) then (
    f_M_parting_B84 N (f_M_parting_L20 N n) v1 μ) else (
    let x10 := (μ.1 0 49)
    if ixb x10 5 = true then (
    let μ11 := sI μ 26 (x10).toNatClampNeg v1
    let μ12 := sI μ11 0 49 ((μ11.1 0 49) + (1 : Int32))
    f_M_parting_B84 N (f_M_parting_L20 N n) v1 μ12) else none))) else none) else (
    f_M_parting_B84 N (f_M_parting_L20 N n) v1 μ)) else none) else (
    f_M_parting_B84 N (f_M_parting_L20 N n) v1 μ)) else none)
def f_M_parting (N : Nat)  (μ : Mm) : Option (Int32 × Mm) :=
  if (μ.1 0 8) = (0 : Int32) then (
  let μ2 := sI μ 0 49 (0 : Int32)
  f_M_parting_L20 N N (0 : Int32) μ2) else (
  bn (f_M_meets N ((3 : Int32)) μ) (fun r4 μ3 => 
  some (r4, μ3)))
def f_M_partOf (N : Nat) (a1 : Int32) (a2 : Int32) (μ : Mm) : Option (Int32 × Mm) :=
  bn (f_M_in N a1 ((0 : Int32)) ((7 : Int32)) μ) (fun r2 μ1 => 
  if r2 = (0 : Int32) then (
  some ((-1 : Int32), μ1)) else (
  if a2 = (0 : Int32) then (
  if ixb a1 8 = true then (
  some ((μ1.1 29 (a1).toNatClampNeg), μ1)) else none) else (
  if ixb a1 8 = true then (
  some ((μ1.1 30 (a1).toNatClampNeg), μ1)) else none)))
def f_M_fuel (N : Nat) (a1 : Int32) (μ : Mm) : Option (Int32 × Mm) :=
  bn (f_M_need N ((1 : Int32)) a1 μ) (fun r2 μ1 => 
  if (0 : Int32) ≤ r2 then (
  bn (f_M_whyNot N a1 μ1) (fun r5 μ4 => 
  bn (f_M_in N r5 ((1 : Int32)) ((4 : Int32)) μ4) (fun r7 μ6 => 
  if r7 = (0 : Int32) then (
  bn (f_M_mostFuel N a1 μ6) (fun r10 μ9 => 
  some (r10, μ9))) else (
  some ((-4 : Int32), μ6))))) else (
  some (r2, μ1)))
def f_M_tellsCount_B124 (N : Nat)  (k103 : Int32 → Int32 → Mm → Option (Int32 × Mm)) (v3 : Int32) (s0 : Int32) (s1 : Int32) (μ : Mm) : Option (Int32 × Mm) :=
  let x7 := (s0 + s1)
  let x8 := (v3 + (1 : Int32))
  k103 x7 x8 μ
def f_M_tellsCount_L103 (N : Nat)   : Nat → Int32 → Int32 → Mm → Option (Int32 × Mm)
  | 0, _, _, _ => none
  | n + 1, v2, v3, μ =>
    if (8 : Int32) ≤ v3 then (
    some (v2, μ)) else (
    if ixb v3 8 = true then (
    if (0 : Int32) ≤ (μ.1 2 (v3).toNatClampNeg) then (
    f_M_tellsCount_B124 N (f_M_tellsCount_L103 N n) v3 v2 (1 : Int32) μ) else (
    f_M_tellsCount_B124 N (f_M_tellsCount_L103 N n) v3 v2 (0 : Int32) μ)) else none)
def f_M_tellsCount_B91 (N : Nat)  (k69 : Int32 → Int32 → Mm → Option (Int32 × Mm)) (v3 : Int32) (s0 : Int32) (s1 : Int32) (μ : Mm) : Option (Int32 × Mm) :=
  let x13 := (s0 + s1)
  let x14 := (v3 + (1 : Int32))
  k69 x13 x14 μ
def f_M_tellsCount_L69 (N : Nat)   : Nat → Int32 → Int32 → Mm → Option (Int32 × Mm)
  | 0, _, _, _ => none
  | n + 1, v2, v3, μ =>
    if (μ.1 0 15) ≤ v3 then (
    some (v2, μ)) else (
    bn (f_M_goes N v3 μ) (fun r11 μ10 => 
    if r11 = (0 : Int32) then (
    f_M_tellsCount_B91 N (f_M_tellsCount_L69 N n) v3 v2 (0 : Int32) μ10) else (
    f_M_tellsCount_B91 N (f_M_tellsCount_L69 N n) v3 v2 (1 : Int32) μ10)))
def f_M_tellsCount (N : Nat) (a1 : Int32) (μ : Mm) : Option (Int32 × Mm) :=
  if a1 = (0 : Int32) then (
  some ((μ.1 0 8), μ)) else if a1 = (1 : Int32) then (
  some ((μ.1 0 9), μ)) else if a1 = (2 : Int32) then (
  bn (f_M_walls N ((0 : Int32)) μ) (fun r2 μ1 => 
  some (r2, μ1))) else if a1 = (3 : Int32) then (
  bn (f_M_walls N ((1 : Int32)) μ) (fun r4 μ3 => 
  some (r4, μ3))) else if a1 = (4 : Int32) then (
  some ((μ.1 0 15), μ)) else if a1 = (5 : Int32) then (
  f_M_tellsCount_L69 N N (0 : Int32) (0 : Int32) μ) else (
  f_M_tellsCount_L103 N N (0 : Int32) (0 : Int32) μ)
def f_M_count (N : Nat) (a1 : Int32) (μ : Mm) : Option (Int32 × Mm) :=
  bn (f_M_in N a1 ((0 : Int32)) ((6 : Int32)) μ) (fun r2 μ1 => 
  if r2 = (0 : Int32) then (
  some ((-1 : Int32), μ1)) else (
  bn (f_M_tellsCount N a1 μ1) (fun r5 μ4 => 
  some (r5, μ4))))
def f_M_digest_B367 (N : Nat)  (k312 : Int64 → Int32 → Mm → Option (Int64 × Mm)) (v1 : Int64) (v3 : Int32) (μ : Mm) : Option (Int64 × Mm) :=
  let x45 := (v3 + (1 : Int32))
  k312 v1 x45 μ
def f_M_digest_L335 (N : Nat)  (k312 : Int64 → Int32 → Mm → Option (Int64 × Mm)) : Nat → Int64 → Int32 → Int32 → Mm → Option (Int64 × Mm)
  | 0, _, _, _, _ => none
  | n + 1, v1, v3, v4, μ =>
    if ixb v3 8 = true then (
    if (μ.1 2 (v3).toNatClampNeg) ≤ v4 then (
    f_M_digest_B367 N k312 v1 v3 μ) else (
    bn (f_M_at N v3 v4 μ) (fun r42 μ41 => 
    let x43 := (((31 : Int64) * v1) + (r42).toInt64)
    let x44 := (v4 + (1 : Int32))
    (f_M_digest_L335 N k312 n) x43 v3 x44 μ41))) else none
def f_M_digest_L312 (N : Nat)   : Nat → Int64 → Int32 → Mm → Option (Int64 × Mm)
  | 0, _, _, _ => none
  | n + 1, v1, v3, μ =>
    if (8 : Int32) ≤ v3 then (
    some (v1, μ)) else (
    if ixb v3 8 = true then (
    let x39 := (((31 : Int64) * v1) + ((μ.1 2 (v3).toNatClampNeg)).toInt64)
    f_M_digest_L335 N (f_M_digest_L312 N n) N x39 v3 (0 : Int32) μ) else none)
def f_M_digest_B310 (N : Nat)   (v1 : Int64) (μ : Mm) : Option (Int64 × Mm) :=
  f_M_digest_L312 N N v1 (0 : Int32) μ
def f_M_digest_B304 (N : Nat)  (k161 : Int64 → Int32 → Mm → Option (Int64 × Mm)) (v1 : Int64) (v3 : Int32) (μ : Mm) : Option (Int64 × Mm) :=
  let x21 := (v3 + (1 : Int32))
  k161 v1 x21 μ
def f_M_digest_L272 (N : Nat)  (k161 : Int64 → Int32 → Mm → Option (Int64 × Mm)) : Nat → Int64 → Int32 → Int32 → Mm → Option (Int64 × Mm)
  | 0, _, _, _, _ => none
  | n + 1, v1, v3, v4, μ =>
    if ixb v3 8 = true then (
    if (μ.1 17 (v3).toNatClampNeg) ≤ v4 then (
    f_M_digest_B304 N k161 v1 v3 μ) else (
    bn (f_M_rest N v3 v4 μ) (fun r35 μ34 => 
    let x36 := (((31 : Int64) * v1) + (r35).toInt64)
    let x37 := (v4 + (1 : Int32))
    (f_M_digest_L272 N k161 n) x36 v3 x37 μ34))) else none
def f_M_digest_B269 (N : Nat)  (k161 : Int64 → Int32 → Mm → Option (Int64 × Mm)) (v1 : Int64) (v3 : Int32) (μ : Mm) : Option (Int64 × Mm) :=
  f_M_digest_L272 N k161 N v1 v3 (0 : Int32) μ
def f_M_digest_L237 (N : Nat)  (k161 : Int64 → Int32 → Mm → Option (Int64 × Mm)) : Nat → Int64 → Int32 → Int32 → Mm → Option (Int64 × Mm)
  | 0, _, _, _, _ => none
  | n + 1, v1, v3, v4, μ =>
    if ixb v3 8 = true then (
    if (μ.1 17 (v3).toNatClampNeg) ≤ v4 then (
    f_M_digest_B269 N k161 v1 v3 μ) else (
    bn (f_M_post N v3 v4 μ) (fun r30 μ29 => 
    let x31 := (((31 : Int64) * v1) + (r30).toInt64)
    let x32 := (v4 + (1 : Int32))
    (f_M_digest_L237 N k161 n) x31 v3 x32 μ29))) else none
def f_M_digest_B220 (N : Nat)  (k161 : Int64 → Int32 → Mm → Option (Int64 × Mm)) (v1 : Int64) (v3 : Int32) (μ : Mm) : Option (Int64 × Mm) :=
  if ixb v3 8 = true then (
  let x27 := (((31 : Int64) * v1) + ((μ.1 20 (v3).toNatClampNeg)).toInt64)
  f_M_digest_L237 N k161 N x27 v3 (0 : Int32) μ) else none
def f_M_digest_L192 (N : Nat)  (k161 : Int64 → Int32 → Mm → Option (Int64 × Mm)) : Nat → Int64 → Int32 → Int32 → Mm → Option (Int64 × Mm)
  | 0, _, _, _, _ => none
  | n + 1, v1, v3, v4, μ =>
    if (7 : Int32) ≤ v4 then (
    f_M_digest_B220 N k161 v1 v3 μ) else (
    bn (f_M_toldOf N v3 v4 μ) (fun r24 μ23 => 
    let x25 := (((31 : Int64) * v1) + (r24).toInt64)
    let x26 := (v4 + (1 : Int32))
    (f_M_digest_L192 N k161 n) x25 v3 x26 μ23))
def f_M_digest_L161 (N : Nat)   : Nat → Int64 → Int32 → Mm → Option (Int64 × Mm)
  | 0, _, _, _ => none
  | n + 1, v1, v3, μ =>
    if (μ.1 0 15) ≤ v3 then (
    f_M_digest_B310 N v1 μ) else (
    if ixb v3 8 = true then (
    if (μ.1 16 (v3).toNatClampNeg) = (0 : Int32) then (
    f_M_digest_L192 N (f_M_digest_L161 N n) N v1 v3 (0 : Int32) μ) else (
    let x20 := (((31 : Int64) * v1) - (1 : Int64))
    f_M_digest_B304 N (f_M_digest_L161 N n) x20 v3 μ)) else none)
def f_M_digest_B159 (N : Nat)   (v1 : Int64) (μ : Mm) : Option (Int64 × Mm) :=
  f_M_digest_L161 N N v1 (0 : Int32) μ
def f_M_digest_B150 (N : Nat)  (k114 : Int64 → Int32 → Mm → Option (Int64 × Mm)) (v3 : Int32) (s0 : Int64) (s1 : Int32) (μ : Mm) : Option (Int64 × Mm) :=
  let x16 := (s0 + (s1).toInt64)
  let x17 := (v3 + (1 : Int32))
  k114 x16 x17 μ
def f_M_digest_L114 (N : Nat)   : Nat → Int64 → Int32 → Mm → Option (Int64 × Mm)
  | 0, _, _, _ => none
  | n + 1, v1, v3, μ =>
    if (μ.1 0 9) ≤ v3 then (
    f_M_digest_B159 N v1 μ) else (
    if ixb v3 16 = true then (
    if ixb v3 16 = true then (
    if (μ.1 8 (v3).toNatClampNeg) = (0 : Int32) then (
    f_M_digest_B150 N (f_M_digest_L114 N n) v3 (((31 : Int64) * v1) + ((μ.1 7 (v3).toNatClampNeg)).toInt64) (0 : Int32) μ) else (
    f_M_digest_B150 N (f_M_digest_L114 N n) v3 (((31 : Int64) * v1) + ((μ.1 7 (v3).toNatClampNeg)).toInt64) (10 : Int32) μ)) else none) else none)
def f_M_digest_B112 (N : Nat)   (v1 : Int64) (μ : Mm) : Option (Int64 × Mm) :=
  f_M_digest_L114 N N v1 (0 : Int32) μ
def f_M_digest_B106 (N : Nat)  (k33 : Int64 → Int32 → Mm → Option (Int64 × Mm)) (v1 : Int64) (v3 : Int32) (μ : Mm) : Option (Int64 × Mm) :=
  let x13 := (v3 + (1 : Int32))
  k33 v1 x13 μ
def f_M_digest_B97 (N : Nat)  (k33 : Int64 → Int32 → Mm → Option (Int64 × Mm)) (k46 : Int64 → Int32 → Int32 → Mm → Option (Int64 × Mm)) (v3 : Int32) (v4 : Int32) (s0 : Int64) (s1 : Int32) (μ : Mm) : Option (Int64 × Mm) :=
  let x11 := (s0 + (s1).toInt64)
  let x12 := (v4 + (1 : Int32))
  k46 x11 v3 x12 μ
def f_M_digest_L46 (N : Nat)  (k33 : Int64 → Int32 → Mm → Option (Int64 × Mm)) : Nat → Int64 → Int32 → Int32 → Mm → Option (Int64 × Mm)
  | 0, _, _, _, _ => none
  | n + 1, v1, v3, v4, μ =>
    if (μ.1 0 9) ≤ v4 then (
    f_M_digest_B106 N k33 v1 v3 μ) else (
    let x9 := (((16 : Int32) * v3) + v4)
    if ixb x9 256 = true then (
    if (μ.1 6 (x9).toNatClampNeg) = (0 : Int32) then (
    if ixb x9 256 = true then (
    f_M_digest_B97 N k33 (f_M_digest_L46 N k33 n) v3 v4 ((31 : Int64) * v1) (μ.1 5 (x9).toNatClampNeg) μ) else none) else (
    if ixb x9 256 = true then (
    f_M_digest_B97 N k33 (f_M_digest_L46 N k33 n) v3 v4 ((31 : Int64) * v1) (-(μ.1 5 (x9).toNatClampNeg)) μ) else none)) else none)
def f_M_digest_L33 (N : Nat)   : Nat → Int64 → Int32 → Mm → Option (Int64 × Mm)
  | 0, _, _, _ => none
  | n + 1, v1, v3, μ =>
    if (μ.1 0 9) ≤ v3 then (
    f_M_digest_B112 N v1 μ) else (
    let x7 := (v3 + (1 : Int32))
    f_M_digest_L46 N (f_M_digest_L33 N n) N v1 v3 x7 μ)
def f_M_digest_B31 (N : Nat)   (v1 : Int64) (μ : Mm) : Option (Int64 × Mm) :=
  f_M_digest_L33 N N v1 (0 : Int32) μ
def f_M_digest_L6 (N : Nat)   : Nat → Int64 → Int32 → Mm → Option (Int64 × Mm)
  | 0, _, _, _ => none
  | n + 1, v1, v3, μ =>
    if (7 : Int32) ≤ v3 then (
    f_M_digest_B31 N v1 μ) else (
    bn (f_M_tellsCount N v3 μ) (fun r3 μ2 => 
    let x4 := (((31 : Int64) * v1) + (r3).toInt64)
    let x5 := (v3 + (1 : Int32))
    (f_M_digest_L6 N n) x4 x5 μ2))
def f_M_digest (N : Nat)  (μ : Mm) : Option (Int64 × Mm) :=
  f_M_digest_L6 N N (17 : Int64) (0 : Int32) μ
