/-! what each method of the class does, as a function of the memory (by program, out of its bytecode) -/
def f_Cr_has (N : Nat) (a1 : Int32) (μ : Mm) : Option (Int32 × Mm) :=
  if a1 < (0 : Int32) then (
  some ((0 : Int32), μ)) else (
  if (μ.1 11 1) ≤ a1 then (
  some ((0 : Int32), μ)) else (
  some ((1 : Int32), μ)))
def f_Cr_lacks (N : Nat) (a1 : Int32) (μ : Mm) : Option (Int32 × Mm) :=
  if ixb a1 8 = true then (
  let w2 := (a1).toNatClampNeg
  let x3 := (μ.1 (WK w2) 6)
  if zb x3 = true then some (x3, μ) else none) else none
def f_Cr_get (N : Nat) (a1 : Int32) (μ : Mm) : Option (Nat × Mm) :=
  if ixb a1 8 = true then (
  let w2 := (a1).toNatClampNeg
  some (w2, μ)) else none
def f_Cr_changing (N : Nat) (a1 : Int32) (μ : Mm) : Option (Nat × Mm) :=
  let μ1 := sI μ 11 4 (1 : Int32)
  if ixb a1 8 = true then (
  let w3 := (a1).toNatClampNeg
  some (w3, μ1)) else none
def f_Cr_add_B77 (N : Nat)   (v4 : Int32) (s0 : Nat) (s1 : Int32) (μ : Mm) : Option (Int32 × Mm) :=
  let μ13 := sI μ (WK s0) 3 s1
  some (v4, μ13)
def f_Cr_add_B62 (N : Nat)   (v1 : Int32) (v2 : Int32) (v4 : Int32) (v5 : Nat) (s0 : Nat) (s1 : Int32) (μ : Mm) : Option (Int32 × Mm) :=
  let μ11 := sI μ (WK s0) 2 s1
  if v1 = (3 : Int32) then (
  f_Cr_add_B77 N v4 v5 v2 μ11) else (
  f_Cr_add_B77 N v4 v5 (0 : Int32) μ11)
def f_Cr_add_B47 (N : Nat)   (v1 : Int32) (v2 : Int32) (v3 : Int32) (v4 : Int32) (v5 : Nat) (s0 : Nat) (s1 : Int32) (μ : Mm) : Option (Int32 × Mm) :=
  let μ9 := sI μ (WK s0) 1 s1
  if v1 = (2 : Int32) then (
  f_Cr_add_B62 N v1 v2 v4 v5 v5 v3 μ9) else (
  f_Cr_add_B62 N v1 v2 v4 v5 v5 (0 : Int32) μ9)
def f_Cr_add_B42 (N : Nat)   (v1 : Int32) (v2 : Int32) (v3 : Int32) (v4 : Int32) (v5 : Nat) (s0 : Nat) (μ : Mm) : Option (Int32 × Mm) :=
  f_Cr_add_B47 N v1 v2 v3 v4 v5 s0 v2 μ
def f_Cr_add (N : Nat) (a1 : Int32) (a2 : Int32) (a3 : Int32) (μ : Mm) : Option (Int32 × Mm) :=
  let x1 := (μ.1 11 1)
  let μ2 := sI μ 11 1 ((μ.1 11 1) + (1 : Int32))
  bn (f_Cr_changing N x1 μ2) (fun r4 μ3 => 
  if r4 < 8 then (
  let μ6 := sI μ3 (WK r4) 0 a1
  if a1 = (1 : Int32) then (
  f_Cr_add_B42 N a1 a2 a3 x1 r4 r4 μ6) else (
  if a1 = (2 : Int32) then (
  f_Cr_add_B42 N a1 a2 a3 x1 r4 r4 μ6) else (
  f_Cr_add_B47 N a1 a2 a3 x1 r4 r4 (1 : Int32) μ6))) else none)
def f_Gr_lengthOf (N : Nat) (a1 : Int32) (a2 : Int32) (μ : Mm) : Option (Int32 × Mm) :=
  let x1 := ((a1 * (16 : Int32)) + a2)
  if ixb x1 256 = true then (
  some ((μ.1 7 (x1).toNatClampNeg), μ)) else none
def f_Gr_shortenBy_B71 (N : Nat)  (k15 : Int32 → Int32 → Int32 → Int32 → Mm → Option Mm) (v1 : Int32) (v2 : Int32) (v3 : Int32) (v4 : Int32) (μ : Mm) : Option Mm :=
  let x10 := (v4 + (1 : Int32))
  k15 v1 v2 v3 x10 μ
def f_Gr_shortenBy_L15 (N : Nat)   : Nat → Int32 → Int32 → Int32 → Int32 → Mm → Option Mm
  | 0, _, _, _, _, _ => none
  | n + 1, v1, v2, v3, v4, μ =>
    if (μ.1 6 1) ≤ v4 then (
    some μ) else (
    let x4 := ((v1 * (16 : Int32)) + v4)
    if ixb x4 256 = true then (
    let x5 := (v3 + (μ.1 10 (x4).toNatClampNeg))
    let x6 := ((v2 * (16 : Int32)) + v4)
    if ixb x6 256 = true then (
    if (μ.1 10 (x6).toNatClampNeg) ≤ x5 then (
    f_Gr_shortenBy_B71 N (f_Gr_shortenBy_L15 N n) v1 v2 v3 v4 μ) else (
    let x8 := ((v2 * (16 : Int32)) + v4)
    if ixb x8 256 = true then (
    let μ9 := sI μ 10 (x8).toNatClampNeg x5
    f_Gr_shortenBy_B71 N (f_Gr_shortenBy_L15 N n) v1 v2 v3 v4 μ9) else none)) else none) else none)
def f_Gr_shortenBy (N : Nat) (a1 : Int32) (a2 : Int32) (μ : Mm) : Option Mm :=
  let x1 := ((a2 * (16 : Int32)) + a1)
  if ixb x1 256 = true then (
  let x2 := (μ.1 10 (x1).toNatClampNeg)
  f_Gr_shortenBy_L15 N N a1 a2 x2 (0 : Int32) μ) else none
def f_Gr_measure_B136 (N : Nat)    (μ : Mm) : Option Mm :=
  let μ19 := sI μ 6 9 (0 : Int32)
  some μ19
def f_Gr_measure_B130 (N : Nat)  (k79 : Int32 → Mm → Option Mm) (v1 : Int32) (μ : Mm) : Option Mm :=
  let x18 := (v1 + (1 : Int32))
  k79 x18 μ
def f_Gr_measure_B124 (N : Nat)  (k79 : Int32 → Mm → Option Mm) (k89 : Int32 → Int32 → Mm → Option Mm) (v1 : Int32) (v2 : Int32) (μ : Mm) : Option Mm :=
  let x17 := (v2 + (1 : Int32))
  k89 v1 x17 μ
def f_Gr_measure_L89 (N : Nat)  (k79 : Int32 → Mm → Option Mm) : Nat → Int32 → Int32 → Mm → Option Mm
  | 0, _, _, _ => none
  | n + 1, v1, v2, μ =>
    if (μ.1 6 1) ≤ v2 then (
    f_Gr_measure_B130 N k79 v1 μ) else (
    if v2 = v1 then (
    f_Gr_measure_B124 N k79 (f_Gr_measure_L89 N k79 n) v1 v2 μ) else (
    let x14 := ((v2 * (16 : Int32)) + v1)
    if ixb x14 256 = true then (
    if (1000000 : Int32) ≤ (μ.1 10 (x14).toNatClampNeg) then (
    f_Gr_measure_B124 N k79 (f_Gr_measure_L89 N k79 n) v1 v2 μ) else (
    bv (f_Gr_shortenBy N v1 v2 μ) (fun μ16 => 
    f_Gr_measure_B124 N k79 (f_Gr_measure_L89 N k79 n) v1 v2 μ16))) else none))
def f_Gr_measure_L79 (N : Nat)   : Nat → Int32 → Mm → Option Mm
  | 0, _, _ => none
  | n + 1, v1, μ =>
    if (μ.1 6 1) ≤ v1 then (
    f_Gr_measure_B136 N μ) else (
    f_Gr_measure_L89 N (f_Gr_measure_L79 N n) N v1 (0 : Int32) μ)
def f_Gr_measure_B77 (N : Nat)    (μ : Mm) : Option Mm :=
  f_Gr_measure_L79 N N (0 : Int32) μ
def f_Gr_measure_B71 (N : Nat)  (k10 : Int32 → Mm → Option Mm) (v1 : Int32) (μ : Mm) : Option Mm :=
  let x10 := (v1 + (1 : Int32))
  k10 x10 μ
def f_Gr_measure_B64 (N : Nat)  (k10 : Int32 → Mm → Option Mm) (k20 : Int32 → Int32 → Mm → Option Mm) (v1 : Int32) (v2 : Int32) (s1 : Int32) (s2 : Int32) (μ : Mm) : Option Mm :=
  if ixb s1 256 = true then (
  let μ8 := sI μ 10 (s1).toNatClampNeg s2
  let x9 := (v2 + (1 : Int32))
  k20 v1 x9 μ8) else none
def f_Gr_measure_L20 (N : Nat)  (k10 : Int32 → Mm → Option Mm) : Nat → Int32 → Int32 → Mm → Option Mm
  | 0, _, _, _ => none
  | n + 1, v1, v2, μ =>
    if (μ.1 6 1) ≤ v2 then (
    f_Gr_measure_B71 N k10 v1 μ) else (
    bn (f_Gr_lengthOf N v1 v2 μ) (fun r5 μ4 => 
    if v1 = v2 then (
    f_Gr_measure_B64 N k10 (f_Gr_measure_L20 N k10 n) v1 v2 ((v1 * (16 : Int32)) + v2) (0 : Int32) μ4) else (
    if r5 ≤ (0 : Int32) then (
    f_Gr_measure_B64 N k10 (f_Gr_measure_L20 N k10 n) v1 v2 ((v1 * (16 : Int32)) + v2) (1000000 : Int32) μ4) else (
    f_Gr_measure_B64 N k10 (f_Gr_measure_L20 N k10 n) v1 v2 ((v1 * (16 : Int32)) + v2) r5 μ4))))
def f_Gr_measure_L10 (N : Nat)   : Nat → Int32 → Mm → Option Mm
  | 0, _, _ => none
  | n + 1, v1, μ =>
    if (μ.1 6 1) ≤ v1 then (
    f_Gr_measure_B77 N μ) else (
    f_Gr_measure_L20 N (f_Gr_measure_L10 N n) N v1 (0 : Int32) μ)
def f_Gr_measure (N : Nat)  (μ : Mm) : Option Mm :=
  if (μ.1 6 9) = (0 : Int32) then (
  some μ) else (
  f_Gr_measure_L10 N N (0 : Int32) μ)
def f_Gr_has (N : Nat) (a1 : Int32) (μ : Mm) : Option (Int32 × Mm) :=
  if a1 < (0 : Int32) then (
  some ((0 : Int32), μ)) else (
  if (μ.1 6 1) ≤ a1 then (
  some ((0 : Int32), μ)) else (
  some ((1 : Int32), μ)))
def f_Gr_farOf (N : Nat) (a1 : Int32) (a2 : Int32) (μ : Mm) : Option (Int32 × Mm) :=
  let x1 := ((a1 * (16 : Int32)) + a2)
  if ixb x1 256 = true then (
  let x2 := (μ.1 10 (x1).toNatClampNeg)
  if (1000000 : Int32) ≤ x2 then (
  some ((-9 : Int32), μ)) else (
  some (x2, μ))) else none
def f_Gr_within_B52 (N : Nat)  (k14 : Int32 → Int32 → Int32 → Int32 → Mm → Option (Int32 × Mm)) (v1 : Int32) (v2 : Int32) (v4 : Int32) (s0 : Int32) (s1 : Int32) (μ : Mm) : Option (Int32 × Mm) :=
  let x7 := (s0 ||| s1)
  let x8 := (v4 + (1 : Int32))
  k14 v1 v2 x7 x8 μ
def f_Gr_within_B51 (N : Nat)  (k14 : Int32 → Int32 → Int32 → Int32 → Mm → Option (Int32 × Mm)) (v1 : Int32) (v2 : Int32) (v4 : Int32) (s0 : Int32) (μ : Mm) : Option (Int32 × Mm) :=
  f_Gr_within_B52 N k14 v1 v2 v4 s0 (0 : Int32) μ
def f_Gr_within_L14 (N : Nat)   : Nat → Int32 → Int32 → Int32 → Int32 → Mm → Option (Int32 × Mm)
  | 0, _, _, _, _, _ => none
  | n + 1, v1, v2, v3, v4, μ =>
    if (μ.1 6 1) ≤ v4 then (
    some (v3, μ)) else (
    bn (f_Gr_farOf N v1 v4 μ) (fun r4 μ3 => 
    if r4 < (0 : Int32) then (
    f_Gr_within_B51 N (f_Gr_within_L14 N n) v1 v2 v4 v3 μ3) else (
    if v2 < r4 then (
    f_Gr_within_B51 N (f_Gr_within_L14 N n) v1 v2 v4 v3 μ3) else (
    f_Gr_within_B52 N (f_Gr_within_L14 N n) v1 v2 v4 v3 ((1 : Int32) <<< (v4 &&& 31)) μ3))))
def f_Gr_within (N : Nat) (a1 : Int32) (a2 : Int32) (μ : Mm) : Option (Int32 × Mm) :=
  if (1 : Int32) ≤ a2 then (
  f_Gr_within_L14 N N a1 a2 (0 : Int32) (0 : Int32) μ) else (
  some (((1 : Int32) <<< (a1 &&& 31)), μ))
def f_Wk_legBehind (N : Nat) (j : Nat) (a1 : Int32) (μ : Mm) : Option (Int32 × Mm) :=
  if (μ.1 (WK j) 8) ≤ (a1 + (1 : Int32)) then (
  some ((0 : Int32), μ)) else (
  some ((a1 + (1 : Int32)), μ))
def f_Gr_isBase (N : Nat) (a1 : Int32) (μ : Mm) : Option (Int32 × Mm) :=
  if ixb a1 16 = true then (
  let x1 := (μ.1 9 (a1).toNatClampNeg)
  if zb x1 = true then some (x1, μ) else none) else none
def f_Jm_max_7cf53 (N : Nat) (a1 : Int32) (a2 : Int32) (μ : Mm) : Option (Int32 × Mm) :=
  if a1 < a2 then (
  some (a2, μ)) else (
  some (a1, μ))
def f_Wk_longestRide_B115 (N : Nat) (j : Nat) (k51 : Int32 → Int32 → Int32 → Int32 → Mm → Option (Int32 × Mm)) (v3 : Int32) (v4 : Int32) (v6 : Int32) (v7 : Int32) (μ : Mm) : Option (Int32 × Mm) :=
  let x18 := (v6 + (1 : Int32))
  k51 v3 v4 v7 x18 μ
def f_Wk_longestRide_L51 (N : Nat) (j : Nat)  : Nat → Int32 → Int32 → Int32 → Int32 → Mm → Option (Int32 × Mm)
  | 0, _, _, _, _, _ => none
  | n + 1, v3, v4, v5, v6, μ =>
    if (μ.1 (WK j) 8) ≤ v6 then (
    some (v3, μ)) else (
    bn (f_Wk_legBehind N j v5 μ) (fun r9 μ8 => 
    if ixb v5 24 = true then (
    if ixb r9 24 = true then (
    bn (f_Gr_lengthOf N ((μ8.1 (WK j + 1) (v5).toNatClampNeg)) ((μ8.1 (WK j + 1) (r9).toNatClampNeg)) μ8) (fun r11 μ10 => 
    let x12 := (v4 + r11)
    if ixb r9 24 = true then (
    bn (f_Gr_isBase N ((μ10.1 (WK j + 1) (r9).toNatClampNeg)) μ10) (fun r14 μ13 => 
    if r14 = (0 : Int32) then (
    f_Wk_longestRide_B115 N j (f_Wk_longestRide_L51 N j n) v3 x12 v6 r9 μ13) else (
    bn (f_Jm_max_7cf53 N v3 x12 μ13) (fun r17 μ16 => 
    f_Wk_longestRide_B115 N j (f_Wk_longestRide_L51 N j n) r17 (0 : Int32) v6 r9 μ16)))) else none)) else none) else none))
def f_Wk_longestRide_B29 (N : Nat) (j : Nat)  (v2 : Int32) (μ : Mm) : Option (Int32 × Mm) :=
  if v2 < (μ.1 (WK j) 8) then (
  f_Wk_longestRide_L51 N j N (0 : Int32) (0 : Int32) v2 (0 : Int32) μ) else (
  some ((-9 : Int32), μ))
def f_Wk_longestRide_L2 (N : Nat) (j : Nat)  : Nat → Int32 → Mm → Option (Int32 × Mm)
  | 0, _, _ => none
  | n + 1, v2, μ =>
    if (μ.1 (WK j) 8) ≤ v2 then (
    f_Wk_longestRide_B29 N j v2 μ) else (
    if ixb v2 24 = true then (
    bn (f_Gr_isBase N ((μ.1 (WK j + 1) (v2).toNatClampNeg)) μ) (fun r3 μ2 => 
    if r3 = (0 : Int32) then (
    let x5 := (v2 + (1 : Int32))
    (f_Wk_longestRide_L2 N j n) x5 μ2) else (
    f_Wk_longestRide_B29 N j v2 μ2))) else none)
def f_Wk_longestRide (N : Nat) (j : Nat) (μ : Mm) : Option (Int32 × Mm) :=
  f_Wk_longestRide_L2 N j N (0 : Int32) μ
def f_Wk_rideFault (N : Nat) (j : Nat) (a1 : Int32) (μ : Mm) : Option (Int32 × Mm) :=
  if a1 = (-9 : Int32) then (
  some ((5 : Int32), μ)) else (
  if a1 ≤ (μ.1 (WK j) 2) then (
  some ((0 : Int32), μ)) else (
  some ((6 : Int32), μ)))
def f_Wk_faultOn_B101 (N : Nat) (j : Nat)  (v2 : Int32) (μ : Mm) : Option (Int32 × Mm) :=
  if v2 = (0 : Int32) then (
  if (μ.1 (WK j) 0) = (2 : Int32) then (
  bn (f_Wk_longestRide N j μ) (fun r19 μ18 => 
  bn (f_Wk_rideFault N j r19 μ18) (fun r21 μ20 => 
  some (r21, μ20)))) else (
  some ((0 : Int32), μ))) else (
  some ((4 : Int32), μ))
def f_Wk_faultOn_B93 (N : Nat) (j : Nat) (k45 : Int32 → Int32 → Mm → Option (Int32 × Mm)) (v3 : Int32) (s0 : Int32) (s1 : Int32) (μ : Mm) : Option (Int32 × Mm) :=
  let x14 := (s0 ||| s1)
  let x15 := (v3 + (1 : Int32))
  k45 x14 x15 μ
def f_Wk_faultOn_L45 (N : Nat) (j : Nat)  : Nat → Int32 → Int32 → Mm → Option (Int32 × Mm)
  | 0, _, _, _ => none
  | n + 1, v2, v3, μ =>
    if (μ.1 (WK j) 8) ≤ v3 then (
    f_Wk_faultOn_B101 N j v2 μ) else (
    if ixb v3 24 = true then (
    bn (f_Wk_legBehind N j v3 μ) (fun r9 μ8 => 
    if ixb r9 24 = true then (
    bn (f_Gr_lengthOf N ((μ.1 (WK j + 1) (v3).toNatClampNeg)) ((μ8.1 (WK j + 1) (r9).toNatClampNeg)) μ8) (fun r11 μ10 => 
    if r11 = (0 : Int32) then (
    some ((3 : Int32), μ10)) else (
    if (0 : Int32) ≤ r11 then (
    f_Wk_faultOn_B93 N j (f_Wk_faultOn_L45 N j n) v3 v2 (0 : Int32) μ10) else (
    f_Wk_faultOn_B93 N j (f_Wk_faultOn_L45 N j n) v3 v2 (1 : Int32) μ10)))) else none)) else none)
def f_Wk_faultOn_B41 (N : Nat) (j : Nat)   (μ : Mm) : Option (Int32 × Mm) :=
  f_Wk_faultOn_L45 N j N (0 : Int32) (0 : Int32) μ
def f_Wk_faultOn_L12 (N : Nat) (j : Nat)  : Nat → Int32 → Mm → Option (Int32 × Mm)
  | 0, _, _ => none
  | n + 1, v2, μ =>
    if (μ.1 (WK j) 8) ≤ v2 then (
    f_Wk_faultOn_B41 N j μ) else (
    if ixb v2 24 = true then (
    bn (f_Gr_has N ((μ.1 (WK j + 1) (v2).toNatClampNeg)) μ) (fun r4 μ3 => 
    if r4 = (0 : Int32) then (
    some ((2 : Int32), μ3)) else (
    let x6 := (v2 + (1 : Int32))
    (f_Wk_faultOn_L12 N j n) x6 μ3))) else none)
def f_Wk_faultOn (N : Nat) (j : Nat) (μ : Mm) : Option (Int32 × Mm) :=
  if (1 : Int32) ≤ (μ.1 (WK j) 8) then (
  f_Wk_faultOn_L12 N j N (0 : Int32) μ) else (
  some ((1 : Int32), μ))
def f_Wk_unitParts_B16 (N : Nat) (j : Nat)   (μ : Mm) : Option (Int32 × Mm) :=
  some ((0 : Int32), μ)
def f_Wk_unitParts (N : Nat) (j : Nat) (μ : Mm) : Option (Int32 × Mm) :=
  if (μ.1 (WK j) 0) = (3 : Int32) then (
  f_Wk_unitParts_B16 N j μ) else (
  if (1 : Int32) ≤ (μ.1 (WK j) 1) then (
  let x3 := (μ.1 (WK j) 1)
  if x3 = (0 : Int32) then none else (
  some (((60 : Int32) / x3), μ))) else (
  f_Wk_unitParts_B16 N j μ))
def f_Wk_prepareLegs_B120 (N : Nat) (j : Nat)  (v2 : Int32) (μ : Mm) : Option Mm :=
  let x17 := (μ.1 (WK j) 8)
  if ixb x17 25 = true then (
  let μ18 := sI μ (WK j + 3) (x17).toNatClampNeg v2
  bn (f_Jm_max_7cf53 N ((1 : Int32)) v2 μ18) (fun r20 μ19 => 
  let μ21 := sI μ19 (WK j) 12 r20
  some μ21)) else none
def f_Wk_prepareLegs_L10 (N : Nat) (j : Nat)  : Nat → Int32 → Int32 → Int32 → Mm → Option Mm
  | 0, _, _, _, _ => none
  | n + 1, v2, v3, v4, μ =>
    if (μ.1 (WK j) 8) ≤ v4 then (
    f_Wk_prepareLegs_B120 N j v2 μ) else (
    if ixb v4 25 = true then (
    let μ4 := sI μ (WK j + 3) (v4).toNatClampNeg v2
    if ixb v4 24 = true then (
    let x5 := (v2 + (μ4.1 (WK j + 2) (v4).toNatClampNeg))
    if ixb v4 24 = true then (
    let μ6 := sI μ4 (WK j + 4) (v4).toNatClampNeg x5
    if ixb v4 24 = true then (
    if ixb v4 24 = true then (
    bn (f_Wk_legBehind N j v4 μ6) (fun r8 μ7 => 
    if ixb r8 24 = true then (
    bn (f_Gr_lengthOf N ((μ6.1 (WK j + 1) (v4).toNatClampNeg)) ((μ7.1 (WK j + 1) (r8).toNatClampNeg)) μ7) (fun r10 μ9 => 
    let x11 := ((μ6.1 (WK j + 4) (v4).toNatClampNeg) + (v3 * r10))
    if ixb v4 24 = true then (
    bn (f_Gr_within N ((μ9.1 (WK j + 1) (v4).toNatClampNeg)) ((μ9.1 (WK j) 4)) μ9) (fun r13 μ12 => 
    if ixb v4 24 = true then (
    let μ14 := sI μ12 (WK j + 5) (v4).toNatClampNeg r13
    if ixb v4 24 = true then (
    let μ15 := sI μ14 (WK j) 13 ((μ14.1 (WK j) 13) ||| (μ14.1 (WK j + 5) (v4).toNatClampNeg))
    let x16 := (v4 + (1 : Int32))
    (f_Wk_prepareLegs_L10 N j n) x11 v3 x16 μ15) else none) else none)) else none)) else none)) else none) else none) else none) else none) else none)
def f_Wk_prepareLegs (N : Nat) (j : Nat) (μ : Mm) : Option Mm :=
  bn (f_Wk_unitParts N j μ) (fun r2 μ1 => 
  f_Wk_prepareLegs_L10 N j N (0 : Int32) r2 (0 : Int32) μ1)
def f_Wk_prepare_B96 (N : Nat) (j : Nat)  (s0 : Nat) (s1 : Int32) (μ : Mm) : Option Mm :=
  if zb s1 = true then (
  let μ16 := sI μ (WK s0) 11 s1
  if (μ16.1 (WK j) 11) = (0 : Int32) then (
  some μ16) else (
  bv (f_Wk_prepareLegs N j μ16) (fun μ18 => 
  some μ18))) else none
def f_Wk_prepare_B76 (N : Nat) (j : Nat)  (s0 : Nat) (s1 : Int32) (μ : Mm) : Option Mm :=
  let μ19 := sI μ (WK s0) 13 s1
  some μ19
def f_Wk_prepare_B24 (N : Nat) (j : Nat)   (μ : Mm) : Option Mm :=
  let μ15 := sI μ (WK j) 11 (0 : Int32)
  some μ15
def f_Wk_prepare (N : Nat) (j : Nat) (μ : Mm) : Option Mm :=
  let μ1 := sI μ (WK j) 13 (0 : Int32)
  let μ2 := sI μ1 (WK j) 12 (1 : Int32)
  if (μ2.1 (WK j) 5) = (0 : Int32) then (
  if (μ2.1 (WK j) 6) = (0 : Int32) then (
  if (μ2.1 (WK j) 0) = (3 : Int32) then (
  bn (f_Gr_has N ((μ2.1 (WK j) 3)) μ2) (fun r7 μ6 => 
  if zb r7 = true then (
  let μ8 := sI μ6 (WK j) 11 r7
  if (μ8.1 (WK j) 11) = (0 : Int32) then (
  f_Wk_prepare_B76 N j j (0 : Int32) μ8) else (
  bn (f_Gr_within N ((μ8.1 (WK j) 3)) ((μ8.1 (WK j) 4)) μ8) (fun r11 μ10 => 
  f_Wk_prepare_B76 N j j r11 μ10))) else none)) else (
  bn (f_Wk_faultOn N j μ2) (fun r13 μ12 => 
  if r13 = (0 : Int32) then (
  f_Wk_prepare_B96 N j j (1 : Int32) μ12) else (
  f_Wk_prepare_B96 N j j (0 : Int32) μ12)))) else (
  f_Wk_prepare_B24 N j μ2)) else (
  f_Wk_prepare_B24 N j μ2)
def f_Cr_refresh_B91 (N : Nat)    (μ : Mm) : Option Mm :=
  let μ14 := sI μ 11 4 (0 : Int32)
  let μ15 := sI μ14 11 5 (μ14.1 6 4)
  some μ15
def f_Cr_refresh_B81 (N : Nat)  (k36 : Int32 → Mm → Option Mm) (v1 : Int32) (s1 : Int32) (s2 : Int32) (μ : Mm) : Option Mm :=
  let μ12 := sI μ 11 2 (s1 ||| s2)
  let x13 := (v1 + (1 : Int32))
  k36 x13 μ12
def f_Cr_refresh_L36 (N : Nat)   : Nat → Int32 → Mm → Option Mm
  | 0, _, _ => none
  | n + 1, v1, μ =>
    if (μ.1 11 1) ≤ v1 then (
    f_Cr_refresh_B91 N μ) else (
    if ixb v1 8 = true then (
    let w7 := (v1).toNatClampNeg
    bv (f_Wk_prepare N w7 μ) (fun μ8 => 
    if ixb v1 8 = true then (
    let w10 := (v1).toNatClampNeg
    if (μ8.1 (WK w10) 11) = (0 : Int32) then (
    f_Cr_refresh_B81 N (f_Cr_refresh_L36 N n) v1 (μ8.1 11 2) (0 : Int32) μ8) else (
    f_Cr_refresh_B81 N (f_Cr_refresh_L36 N n) v1 (μ8.1 11 2) ((1 : Int32) <<< (v1 &&& 31)) μ8)) else none)) else none)
def f_Cr_refresh_B22 (N : Nat)    (μ : Mm) : Option Mm :=
  bv (f_Gr_measure N μ) (fun μ3 => 
  let μ4 := sI μ3 11 2 (0 : Int32)
  f_Cr_refresh_L36 N N (0 : Int32) μ4)
def f_Cr_refresh (N : Nat)  (μ : Mm) : Option Mm :=
  if (μ.1 11 4) = (0 : Int32) then (
  if (μ.1 11 5) = (μ.1 6 4) then (
  some μ) else (
  f_Cr_refresh_B22 N μ)) else (
  f_Cr_refresh_B22 N μ)
def f_Cr_goes (N : Nat) (a1 : Int32) (μ : Mm) : Option (Int32 × Mm) :=
  if (((μ.1 11 2) >>> (a1 &&& 31)) &&& (1 : Int32)) = (0 : Int32) then (
  some ((0 : Int32), μ)) else (
  some ((1 : Int32), μ))
def f_W_gcd_L9 (N : Nat)   : Nat → Int64 → Int64 → Int32 → Mm → Option (Int64 × Mm)
  | 0, _, _, _, _ => none
  | n + 1, v4, v6, v8, μ =>
    if (200 : Int32) ≤ v8 then (
    some (v4, μ)) else (
    if (lg_cmp v6 (0 : Int64)) = (0 : Int32) then (
    some (v4, μ)) else (
    if v6 = (0 : Int64) then none else (
    let x3 := (v4 - v4 / v6 * v6)
    let x4 := (v8 + (1 : Int32))
    (f_W_gcd_L9 N n) v6 x3 x4 μ)))
def f_W_gcd (N : Nat) (a1 : Int64) (a2 : Int64) (μ : Mm) : Option (Int64 × Mm) :=
  f_W_gcd_L9 N N a1 a2 (0 : Int32) μ
def f_Cr_jointOf_B80 (N : Nat)  (k4 : Int32 → Int32 → Int32 → Mm → Option (Int32 × Mm)) (v1 : Int32) (v2 : Int32) (v3 : Int32) (μ : Mm) : Option (Int32 × Mm) :=
  let x13 := (v3 + (1 : Int32))
  k4 v1 v2 x13 μ
def f_Cr_jointOf_L4 (N : Nat)   : Nat → Int32 → Int32 → Int32 → Mm → Option (Int32 × Mm)
  | 0, _, _, _, _ => none
  | n + 1, v1, v2, v3, μ =>
    if (μ.1 11 1) ≤ v3 then (
    some (v2, μ)) else (
    if ((v1 >>> (v3 &&& 31)) &&& (1 : Int32)) = (0 : Int32) then (
    f_Cr_jointOf_B80 N (f_Cr_jointOf_L4 N n) v1 v2 v3 μ) else (
    if ixb v3 8 = true then (
    let w4 := (v3).toNatClampNeg
    let x5 := (μ.1 (WK w4) 12)
    bn (f_W_gcd N (((v2).toInt64)) (((x5).toInt64)) μ) (fun r7 μ6 => 
    let x8 := (r7).toInt32
    if x8 < (1 : Int32) then (
    some ((-6 : Int32), μ6)) else (
    if x5 ≤ (14400 : Int32) then (
    if x8 = (0 : Int32) then none else (
    let x11 := ((v2 / x8) * x5)
    if x11 ≤ (14400 : Int32) then (
    f_Cr_jointOf_B80 N (f_Cr_jointOf_L4 N n) v1 x11 v3 μ6) else (
    some ((-6 : Int32), μ6)))) else (
    some ((-6 : Int32), μ6))))) else none))
def f_Cr_jointOf (N : Nat) (a1 : Int32) (μ : Mm) : Option (Int32 × Mm) :=
  f_Cr_jointOf_L4 N N a1 (1 : Int32) (0 : Int32) μ
def f_Cr_isAnyPairSpent_B57 (N : Nat)  (k2 : Int32 → Mm → Option (Int32 × Mm)) (v1 : Int32) (μ : Mm) : Option (Int32 × Mm) :=
  let x10 := (v1 + (1 : Int32))
  k2 x10 μ
def f_Cr_isAnyPairSpent_B51 (N : Nat)  (k2 : Int32 → Mm → Option (Int32 × Mm)) (k14 : Int32 → Int32 → Mm → Option (Int32 × Mm)) (v1 : Int32) (v2 : Int32) (μ : Mm) : Option (Int32 × Mm) :=
  let x9 := (v2 + (1 : Int32))
  k14 v1 x9 μ
def f_Cr_isAnyPairSpent_L14 (N : Nat)  (k2 : Int32 → Mm → Option (Int32 × Mm)) : Nat → Int32 → Int32 → Mm → Option (Int32 × Mm)
  | 0, _, _, _ => none
  | n + 1, v1, v2, μ =>
    if (μ.1 11 1) ≤ v2 then (
    f_Cr_isAnyPairSpent_B57 N k2 v1 μ) else (
    let x4 := (((1 : Int32) <<< (v1 &&& 31)) ||| ((1 : Int32) <<< (v2 &&& 31)))
    if ((μ.1 11 2) &&& x4) = x4 then (
    bn (f_Cr_jointOf N x4 μ) (fun r7 μ6 => 
    if (1 : Int32) ≤ r7 then (
    f_Cr_isAnyPairSpent_B51 N k2 (f_Cr_isAnyPairSpent_L14 N k2 n) v1 v2 μ6) else (
    some ((1 : Int32), μ6)))) else (
    f_Cr_isAnyPairSpent_B51 N k2 (f_Cr_isAnyPairSpent_L14 N k2 n) v1 v2 μ))
def f_Cr_isAnyPairSpent_L2 (N : Nat)   : Nat → Int32 → Mm → Option (Int32 × Mm)
  | 0, _, _ => none
  | n + 1, v1, μ =>
    if (μ.1 11 1) ≤ v1 then (
    some ((0 : Int32), μ)) else (
    let x2 := (v1 + (1 : Int32))
    f_Cr_isAnyPairSpent_L14 N (f_Cr_isAnyPairSpent_L2 N n) N v1 x2 μ)
def f_Cr_isAnyPairSpent (N : Nat)  (μ : Mm) : Option (Int32 × Mm) :=
  f_Cr_isAnyPairSpent_L2 N N (0 : Int32) μ
def f_Cr_everSeen_B34 (N : Nat)  (k4 : Int32 → Int32 → Int32 → Mm → Option (Int32 × Mm)) (v1 : Int32) (v3 : Int32) (s0 : Int32) (s1 : Int32) (μ : Mm) : Option (Int32 × Mm) :=
  let x5 := (s0 ||| s1)
  let x6 := (v3 + (1 : Int32))
  k4 v1 x5 x6 μ
def f_Cr_everSeen_L4 (N : Nat)   : Nat → Int32 → Int32 → Int32 → Mm → Option (Int32 × Mm)
  | 0, _, _, _, _ => none
  | n + 1, v1, v2, v3, μ =>
    if (μ.1 11 1) ≤ v3 then (
    some (v2, μ)) else (
    if ((v1 >>> (v3 &&& 31)) &&& (1 : Int32)) = (0 : Int32) then (
    f_Cr_everSeen_B34 N (f_Cr_everSeen_L4 N n) v1 v3 v2 (0 : Int32) μ) else (
    if ixb v3 8 = true then (
    let w4 := (v3).toNatClampNeg
    f_Cr_everSeen_B34 N (f_Cr_everSeen_L4 N n) v1 v3 v2 (μ.1 (WK w4) 13) μ) else none))
def f_Cr_everSeen (N : Nat) (a1 : Int32) (μ : Mm) : Option (Int32 × Mm) :=
  f_Cr_everSeen_L4 N N a1 (0 : Int32) (0 : Int32) μ
def f_Wk_legAt_L2 (N : Nat) (j : Nat)  : Nat → Int32 → Int32 → Mm → Option (Int32 × Mm)
  | 0, _, _, _ => none
  | n + 1, v1, v2, μ =>
    if (μ.1 (WK j) 8) ≤ (v2 + (1 : Int32)) then (
    some (v2, μ)) else (
    let x2 := (v2 + (1 : Int32))
    if ixb x2 25 = true then (
    if v1 < (μ.1 (WK j + 3) (x2).toNatClampNeg) then (
    some (v2, μ)) else (
    let x4 := (v2 + (1 : Int32))
    (f_Wk_legAt_L2 N j n) v1 x4 μ)) else none)
def f_Wk_legAt (N : Nat) (j : Nat) (a1 : Int32) (μ : Mm) : Option (Int32 × Mm) :=
  f_Wk_legAt_L2 N j N a1 (0 : Int32) μ
def f_Jm_floorMod_7cf53 (N : Nat) (a1 : Int32) (a2 : Int32) (μ : Mm) : Option (Int32 × Mm) :=
  if a2 = (0 : Int32) then none else (
  let x1 := (a1 - a1 / a2 * a2)
  if (0 : Int32) ≤ (a1 ^^^ a2) then (
  some (x1, μ)) else (
  if x1 = (0 : Int32) then (
  some (x1, μ)) else (
  some ((x1 + a2), μ))))
def f_Wk_phaseAt (N : Nat) (j : Nat) (a1 : Int32) (μ : Mm) : Option (Int32 × Mm) :=
  bn (f_Jm_floorMod_7cf53 N ((a1 - (μ.1 (WK j) 7))) ((μ.1 (WK j) 12)) μ) (fun r2 μ1 => 
  some (r2, μ1))
def f_Wk_seenAt (N : Nat) (j : Nat) (a1 : Int32) (μ : Mm) : Option (Int32 × Mm) :=
  if (μ.1 (WK j) 0) = (3 : Int32) then (
  some ((μ.1 (WK j) 13), μ)) else (
  bn (f_Wk_phaseAt N j a1 μ) (fun r3 μ2 => 
  bn (f_Wk_legAt N j r3 μ2) (fun r5 μ4 => 
  if ixb r5 24 = true then (
  if (μ4.1 (WK j + 4) (r5).toNatClampNeg) < r3 then (
  some ((0 : Int32), μ4)) else (
  if ixb r5 24 = true then (
  some ((μ4.1 (WK j + 5) (r5).toNatClampNeg), μ4)) else none)) else none)))
def f_Cr_seenAt_B35 (N : Nat)  (k4 : Int32 → Int32 → Int32 → Mm → Option (Int32 × Mm)) (v1 : Int32) (v3 : Int32) (s0 : Int32) (s1 : Int32) (μ : Mm) : Option (Int32 × Mm) :=
  let x9 := (s0 ||| s1)
  let x10 := (v3 + (1 : Int32))
  k4 v1 x9 x10 μ
def f_Cr_seenAt_L4 (N : Nat)   : Nat → Int32 → Int32 → Int32 → Mm → Option (Int32 × Mm)
  | 0, _, _, _, _ => none
  | n + 1, v1, v2, v3, μ =>
    if (μ.1 11 1) ≤ v3 then (
    some (v2, μ)) else (
    bn (f_Cr_goes N v3 μ) (fun r3 μ2 => 
    if r3 = (0 : Int32) then (
    f_Cr_seenAt_B35 N (f_Cr_seenAt_L4 N n) v1 v3 v2 (0 : Int32) μ2) else (
    if ixb v3 8 = true then (
    let w6 := (v3).toNatClampNeg
    bn (f_Wk_seenAt N w6 v1 μ2) (fun r8 μ7 => 
    f_Cr_seenAt_B35 N (f_Cr_seenAt_L4 N n) v1 v3 v2 r8 μ7)) else none)))
def f_Cr_seenAt (N : Nat) (a1 : Int32) (μ : Mm) : Option (Int32 × Mm) :=
  f_Cr_seenAt_L4 N N a1 (0 : Int32) (0 : Int32) μ
def f_Cr_tell (N : Nat) (a1 : Int32) (a2 : Int32) (μ : Mm) : Option (Int32 × Mm) :=
  if ixb a1 8 = true then (
  let w2 := (a1).toNatClampNeg
  if a2 = (0 : Int32) then (
  some ((μ.1 (WK w2) 0), μ)) else if a2 = (1 : Int32) then (
  bn (f_Wk_unitParts N w2 μ) (fun r4 μ3 => 
  some (r4, μ3))) else if a2 = (2 : Int32) then (
  some ((μ.1 (WK w2) 4), μ)) else if a2 = (3 : Int32) then (
  if (μ.1 (WK w2) 5) = (0 : Int32) then (
  some ((0 : Int32), μ)) else (
  some ((1 : Int32), μ))) else if a2 = (4 : Int32) then (
  some ((μ.1 (WK w2) 8), μ)) else if a2 = (5 : Int32) then (
  bn (f_Cr_goes N a1 μ) (fun r7 μ6 => 
  if r7 = (0 : Int32) then (
  some ((0 : Int32), μ6)) else (
  some ((1 : Int32), μ6)))) else (
  bn (f_Cr_goes N a1 μ) (fun r10 μ9 => 
  if r10 = (0 : Int32) then (
  some ((-9 : Int32), μ9)) else (
  some ((μ9.1 (WK w2) 12), μ9))))) else none
def f_Wk_markOf (N : Nat) (j : Nat) (a1 : Int32) (μ : Mm) : Option (Int32 × Mm) :=
  if a1 = (1 : Int32) then (
  some ((μ.1 (WK j) 1), μ)) else if a1 = (2 : Int32) then (
  some ((μ.1 (WK j) 2), μ)) else if a1 = (3 : Int32) then (
  some ((μ.1 (WK j) 3), μ)) else (
  if (μ.1 (WK j) 8) ≤ (0 : Int32) then (
  some ((-9 : Int32), μ)) else (
  some ((μ.1 (WK j) 7), μ)))
def f_Wk_mixPlanInto_L49 (N : Nat) (j : Nat)  : Nat → Int64 → Int32 → Mm → Option (Int64 × Mm)
  | 0, _, _, _ => none
  | n + 1, v3, v5, μ =>
    if (μ.1 (WK j) 8) ≤ v5 then (
    some (v3, μ)) else (
    if ixb v5 24 = true then (
    let x8 := (((31 : Int64) * v3) + ((μ.1 (WK j + 2) (v5).toNatClampNeg)).toInt64)
    let x9 := (v5 + (1 : Int32))
    (f_Wk_mixPlanInto_L49 N j n) x8 x9 μ) else none)
def f_Wk_mixPlanInto_B46 (N : Nat) (j : Nat)  (v3 : Int64) (μ : Mm) : Option (Int64 × Mm) :=
  f_Wk_mixPlanInto_L49 N j N v3 (0 : Int32) μ
def f_Wk_mixPlanInto_L16 (N : Nat) (j : Nat)  : Nat → Int64 → Int32 → Mm → Option (Int64 × Mm)
  | 0, _, _, _ => none
  | n + 1, v3, v5, μ =>
    if (μ.1 (WK j) 8) ≤ v5 then (
    f_Wk_mixPlanInto_B46 N j v3 μ) else (
    if ixb v5 24 = true then (
    let x5 := (((31 : Int64) * v3) + ((μ.1 (WK j + 1) (v5).toNatClampNeg)).toInt64)
    let x6 := (v5 + (1 : Int32))
    (f_Wk_mixPlanInto_L16 N j n) x5 x6 μ) else none)
def f_Wk_mixPlanInto (N : Nat) (j : Nat) (a1 : Int64) (μ : Mm) : Option (Int64 × Mm) :=
  bn (f_Wk_markOf N j ((0 : Int32)) μ) (fun r2 μ1 => 
  let x3 := (((31 : Int64) * a1) + (r2).toInt64)
  f_Wk_mixPlanInto_L16 N j N x3 (0 : Int32) μ1)
def f_Cr_mixInto_B78 (N : Nat)  (k5 : Int64 → Int32 → Mm → Option (Int64 × Mm)) (v3 : Int64) (v5 : Int32) (μ : Mm) : Option (Int64 × Mm) :=
  let x6 := (v5 + (1 : Int32))
  k5 v3 x6 μ
def f_Cr_mixInto_B66 (N : Nat)  (k5 : Int64 → Int32 → Mm → Option (Int64 × Mm)) (v3 : Int64) (v5 : Int32) (μ : Mm) : Option (Int64 × Mm) :=
  if ixb v5 8 = true then (
  let w13 := (v5).toNatClampNeg
  bn (f_Wk_mixPlanInto N w13 v3 μ) (fun r15 μ14 => 
  f_Cr_mixInto_B78 N k5 r15 v5 μ14)) else none
def f_Cr_mixInto_L37 (N : Nat)  (k5 : Int64 → Int32 → Mm → Option (Int64 × Mm)) : Nat → Int64 → Int32 → Int32 → Mm → Option (Int64 × Mm)
  | 0, _, _, _, _ => none
  | n + 1, v3, v5, v6, μ =>
    if (6 : Int32) < v6 then (
    f_Cr_mixInto_B66 N k5 v3 v5 μ) else (
    bn (f_Cr_tell N v5 v6 μ) (fun r9 μ8 => 
    let x10 := (((31 : Int64) * v3) + (r9).toInt64)
    let x11 := (v6 + (1 : Int32))
    (f_Cr_mixInto_L37 N k5 n) x10 v5 x11 μ8))
def f_Cr_mixInto_L5 (N : Nat)   : Nat → Int64 → Int32 → Mm → Option (Int64 × Mm)
  | 0, _, _, _ => none
  | n + 1, v3, v5, μ =>
    if (μ.1 11 1) ≤ v5 then (
    some (v3, μ)) else (
    bn (f_Cr_lacks N v5 μ) (fun r3 μ2 => 
    if r3 = (0 : Int32) then (
    f_Cr_mixInto_L37 N (f_Cr_mixInto_L5 N n) N v3 v5 (0 : Int32) μ2) else (
    let x5 := (((31 : Int64) * v3) - (1 : Int64))
    f_Cr_mixInto_B78 N (f_Cr_mixInto_L5 N n) x5 v5 μ2)))
def f_Cr_mixInto (N : Nat) (a1 : Int64) (μ : Mm) : Option (Int64 × Mm) :=
  f_Cr_mixInto_L5 N N a1 (0 : Int32) μ
def f_Gr_wallsChanged (N : Nat)  (μ : Mm) : Option Mm :=
  let μ1 := sI μ 6 9 (1 : Int32)
  let μ2 := sI μ1 6 4 ((μ1.1 6 4) + (1 : Int32))
  some μ2
def f_Gr_begin_B70 (N : Nat)    (μ : Mm) : Option Mm :=
  bv (f_Gr_wallsChanged N μ) (fun μ12 => 
  some μ12)
def f_Gr_begin_L44 (N : Nat)   : Nat → Int32 → Mm → Option Mm
  | 0, _, _ => none
  | n + 1, v3, μ =>
    if (16 : Int32) ≤ v3 then (
    f_Gr_begin_B70 N μ) else (
    if ixb v3 16 = true then (
    let μ9 := sI μ 8 (v3).toNatClampNeg (1 : Int32)
    if ixb v3 16 = true then (
    let μ10 := sI μ9 9 (v3).toNatClampNeg (vp_nar .boolean (0 : Int32))
    let x11 := (v3 + (1 : Int32))
    (f_Gr_begin_L44 N n) x11 μ10) else none) else none)
def f_Gr_begin_B42 (N : Nat)    (μ : Mm) : Option Mm :=
  f_Gr_begin_L44 N N (0 : Int32) μ
def f_Gr_begin_L22 (N : Nat)   : Nat → Int32 → Mm → Option Mm
  | 0, _, _ => none
  | n + 1, v3, μ =>
    if (256 : Int32) ≤ v3 then (
    f_Gr_begin_B42 N μ) else (
    if ixb v3 256 = true then (
    let μ6 := sI μ 7 (v3).toNatClampNeg (0 : Int32)
    let x7 := (v3 + (1 : Int32))
    (f_Gr_begin_L22 N n) x7 μ6) else none)
def f_Gr_begin (N : Nat) (a1 : Int32) (a2 : Int32) (μ : Mm) : Option Mm :=
  let μ1 := sI μ 6 0 a1
  let μ2 := sI μ1 6 1 a2
  let μ3 := sI μ2 6 2 (0 : Int32)
  let μ4 := sI μ3 6 3 (0 : Int32)
  f_Gr_begin_L22 N N (0 : Int32) μ4
def f_Gr_setLength (N : Nat) (a1 : Int32) (a2 : Int32) (a3 : Int32) (μ : Mm) : Option Mm :=
  let x1 := ((a1 * (16 : Int32)) + a2)
  if ixb x1 256 = true then (
  let μ2 := sI μ 7 (x1).toNatClampNeg a3
  let x3 := ((a2 * (16 : Int32)) + a1)
  if ixb x3 256 = true then (
  let μ4 := sI μ2 7 (x3).toNatClampNeg a3
  bv (f_Gr_wallsChanged N μ4) (fun μ5 => 
  some μ5)) else none) else none
def f_Gr_build (N : Nat) (a1 : Int32) (a2 : Int32) (a3 : Int32) (μ : Mm) : Option Mm :=
  bv (f_Gr_setLength N a1 a2 a3 μ) (fun μ1 => 
  let μ2 := sI μ1 6 2 ((μ1.1 6 2) + (1 : Int32))
  some μ2)
def f_Gr_turnBroken_B21 (N : Nat)   (v1 : Int32) (v2 : Int32) (v3 : Int32) (s1 : Int32) (s2 : Int32) (μ : Mm) : Option Mm :=
  let μ4 := sI μ 6 3 (s1 + s2)
  bv (f_Gr_setLength N v1 v2 ((-v3)) μ4) (fun μ5 => 
  some μ5)
def f_Gr_turnBroken (N : Nat) (a1 : Int32) (a2 : Int32) (μ : Mm) : Option Mm :=
  bn (f_Gr_lengthOf N a1 a2 μ) (fun r2 μ1 => 
  if r2 ≤ (0 : Int32) then (
  f_Gr_turnBroken_B21 N a1 a2 r2 (μ1.1 6 3) (-1 : Int32) μ1) else (
  f_Gr_turnBroken_B21 N a1 a2 r2 (μ1.1 6 3) (1 : Int32) μ1))
def f_Gr_changeWorth (N : Nat) (a1 : Int32) (a2 : Int32) (μ : Mm) : Option (Int32 × Mm) :=
  if ixb a1 16 = true then (
  let x1 := (μ.1 8 (a1).toNatClampNeg)
  if ixb a1 16 = true then (
  let μ2 := sI μ 8 (a1).toNatClampNeg a2
  let μ3 := sI μ2 6 4 ((μ2.1 6 4) + (1 : Int32))
  some (x1, μ3)) else none) else none
def f_Gr_changeBase (N : Nat) (a1 : Int32) (a2 : Int32) (μ : Mm) : Option (Int32 × Mm) :=
  if ixb a1 16 = true then (
  let x1 := (μ.1 9 (a1).toNatClampNeg)
  if ixb a1 16 = true then (
  let μ2 := sI μ 9 (a1).toNatClampNeg (vp_nar .boolean a2)
  let μ3 := sI μ2 6 4 ((μ2.1 6 4) + (1 : Int32))
  if zb x1 = true then some (x1, μ3) else none) else none) else none
def f_Gr_worthOf (N : Nat) (a1 : Int32) (μ : Mm) : Option (Int32 × Mm) :=
  if ixb a1 16 = true then (
  some ((μ.1 8 (a1).toNatClampNeg), μ)) else none
def f_Gr_worthy_B29 (N : Nat)  (k4 : Int32 → Int32 → Mm → Option (Int32 × Mm)) (v2 : Int32) (s0 : Int32) (s1 : Int32) (μ : Mm) : Option (Int32 × Mm) :=
  let x3 := (s0 ||| s1)
  let x4 := (v2 + (1 : Int32))
  k4 x3 x4 μ
def f_Gr_worthy_L4 (N : Nat)   : Nat → Int32 → Int32 → Mm → Option (Int32 × Mm)
  | 0, _, _, _ => none
  | n + 1, v1, v2, μ =>
    if (μ.1 6 1) ≤ v2 then (
    some (v1, μ)) else (
    if ixb v2 16 = true then (
    if (μ.1 8 (v2).toNatClampNeg) ≤ (0 : Int32) then (
    f_Gr_worthy_B29 N (f_Gr_worthy_L4 N n) v2 v1 (0 : Int32) μ) else (
    f_Gr_worthy_B29 N (f_Gr_worthy_L4 N n) v2 v1 ((1 : Int32) <<< (v2 &&& 31)) μ)) else none)
def f_Gr_worthy (N : Nat)  (μ : Mm) : Option (Int32 × Mm) :=
  f_Gr_worthy_L4 N N (0 : Int32) (0 : Int32) μ
def f_Gr_mixInto_B99 (N : Nat)  (k60 : Int64 → Int32 → Mm → Option (Int64 × Mm)) (v5 : Int32) (s0 : Int64) (s1 : Int32) (μ : Mm) : Option (Int64 × Mm) :=
  let x11 := (s0 + (s1).toInt64)
  let x12 := (v5 + (1 : Int32))
  k60 x11 x12 μ
def f_Gr_mixInto_L60 (N : Nat)   : Nat → Int64 → Int32 → Mm → Option (Int64 × Mm)
  | 0, _, _, _ => none
  | n + 1, v3, v5, μ =>
    if (μ.1 6 1) ≤ v5 then (
    some (v3, μ)) else (
    if ixb v5 16 = true then (
    if ixb v5 16 = true then (
    if (μ.1 9 (v5).toNatClampNeg) = (0 : Int32) then (
    f_Gr_mixInto_B99 N (f_Gr_mixInto_L60 N n) v5 (((31 : Int64) * v3) + ((μ.1 8 (v5).toNatClampNeg)).toInt64) (0 : Int32) μ) else (
    f_Gr_mixInto_B99 N (f_Gr_mixInto_L60 N n) v5 (((31 : Int64) * v3) + ((μ.1 8 (v5).toNatClampNeg)).toInt64) (10 : Int32) μ)) else none) else none)
def f_Gr_mixInto_B57 (N : Nat)   (v3 : Int64) (μ : Mm) : Option (Int64 × Mm) :=
  f_Gr_mixInto_L60 N N v3 (0 : Int32) μ
def f_Gr_mixInto_B51 (N : Nat)  (k5 : Int64 → Int32 → Mm → Option (Int64 × Mm)) (v3 : Int64) (v5 : Int32) (μ : Mm) : Option (Int64 × Mm) :=
  let x8 := (v5 + (1 : Int32))
  k5 v3 x8 μ
def f_Gr_mixInto_L20 (N : Nat)  (k5 : Int64 → Int32 → Mm → Option (Int64 × Mm)) : Nat → Int64 → Int32 → Int32 → Mm → Option (Int64 × Mm)
  | 0, _, _, _, _ => none
  | n + 1, v3, v5, v6, μ =>
    if (μ.1 6 1) ≤ v6 then (
    f_Gr_mixInto_B51 N k5 v3 v5 μ) else (
    bn (f_Gr_lengthOf N v5 v6 μ) (fun r5 μ4 => 
    let x6 := (((31 : Int64) * v3) + (r5).toInt64)
    let x7 := (v6 + (1 : Int32))
    (f_Gr_mixInto_L20 N k5 n) x6 v5 x7 μ4))
def f_Gr_mixInto_L5 (N : Nat)   : Nat → Int64 → Int32 → Mm → Option (Int64 × Mm)
  | 0, _, _, _ => none
  | n + 1, v3, v5, μ =>
    if (μ.1 6 1) ≤ v5 then (
    f_Gr_mixInto_B57 N v3 μ) else (
    let x2 := (v5 + (1 : Int32))
    f_Gr_mixInto_L20 N (f_Gr_mixInto_L5 N n) N v3 v5 x2 μ)
def f_Gr_mixInto (N : Nat) (a1 : Int64) (μ : Mm) : Option (Int64 × Mm) :=
  f_Gr_mixInto_L5 N N a1 (0 : Int32) μ
def f_Jm_max_f86c9 (N : Nat) (a1 : Int64) (a2 : Int64) (μ : Mm) : Option (Int64 × Mm) :=
  if (lg_cmp a1 a2) < (0 : Int32) then (
  some (a2, μ)) else (
  some (a1, μ))
def f_Jm_min_f86c9 (N : Nat) (a1 : Int64) (a2 : Int64) (μ : Mm) : Option (Int64 × Mm) :=
  if (0 : Int32) < (lg_cmp a1 a2) then (
  some (a2, μ)) else (
  some (a1, μ))
def f_Me_sameWay_B112 (N : Nat)    (μ : Mm) : Option (Int64 × Mm) :=
  some ((-1 : Int64), μ)
def f_Me_sameWay (N : Nat) (a1 : Int64) (a2 : Int64) (μ : Mm) : Option (Int64 × Mm) :=
  let x1 := (((μ.1 72 5) - (μ.1 73 5))).toInt64
  if (lg_cmp x1 (0 : Int64)) = (0 : Int32) then (
  if (lg_cmp (μ.2 72 7) (μ.2 73 7)) = (0 : Int32) then (
  some (a1, μ)) else (
  some ((-1 : Int64), μ))) else (
  if x1 = (0 : Int64) then none else (
  let x4 := (((((μ.1 72 5)).toInt64 * (μ.2 72 7)) - (((μ.1 73 5)).toInt64 * (μ.2 73 7))) * ((27720 : Int64) / x1))
  if (lg_cmp x4 a1) < (0 : Int32) then (
  f_Me_sameWay_B112 N μ) else (
  if (0 : Int32) ≤ (lg_cmp x4 a2) then (
  f_Me_sameWay_B112 N μ) else (
  some (x4, μ)))))
def f_Me_towards_B119 (N : Nat)    (μ : Mm) : Option (Int64 × Mm) :=
  some ((-1 : Int64), μ)
def f_Me_towards (N : Nat) (a1 : Int64) (a2 : Int64) (μ : Mm) : Option (Int64 × Mm) :=
  let x1 := (((μ.1 72 5) + (μ.1 73 5))).toInt64
  if (0 : Int32) ≤ (lg_cmp x1 (1 : Int64)) then (
  let x3 := (((μ.1 72 5)).toInt64 * ((μ.2 72 8) - (μ.2 72 7)))
  if x1 = (0 : Int64) then none else (
  let x4 := (((x3 + (((μ.1 72 5)).toInt64 * (μ.2 72 7))) + (((μ.1 73 5)).toInt64 * (μ.2 73 7))) * ((27720 : Int64) / x1))
  if (lg_cmp x4 a1) < (0 : Int32) then (
  f_Me_towards_B119 N μ) else (
  if (0 : Int32) ≤ (lg_cmp x4 a2) then (
  f_Me_towards_B119 N μ) else (
  some (x4, μ))))) else (
  some ((-1 : Int64), μ))
def f_Me_together_B189 (N : Nat)    (μ : Mm) : Option (Int64 × Mm) :=
  some ((-1 : Int64), μ)
def f_Me_together_B147 (N : Nat)   (v3 : Int64) (v5 : Int64) (μ : Mm) : Option (Int64 × Mm) :=
  if (μ.1 72 3) = (μ.1 73 4) then (
  if (μ.1 72 4) = (μ.1 73 3) then (
  bn (f_Me_towards N v3 v5 μ) (fun r20 μ19 => 
  some (r20, μ19))) else (
  f_Me_together_B189 N μ)) else (
  f_Me_together_B189 N μ)
def f_Me_together_B45 (N : Nat)   (v1 : Int64) (μ : Mm) : Option (Int64 × Mm) :=
  bn (f_Jm_max_f86c9 N ((μ.2 72 7)) ((μ.2 73 7)) μ) (fun r6 μ5 => 
  bn (f_Jm_max_f86c9 N v1 ((r6 * (27720 : Int64))) μ5) (fun r8 μ7 => 
  bn (f_Jm_min_f86c9 N ((μ7.2 72 8)) ((μ7.2 73 8)) μ7) (fun r10 μ9 => 
  let x11 := (r10 * (27720 : Int64))
  if (lg_cmp r8 x11) < (0 : Int32) then (
  if (μ9.1 72 3) = (μ9.1 73 3) then (
  if (μ9.1 72 4) = (μ9.1 73 4) then (
  bn (f_Me_sameWay N r8 x11 μ9) (fun r16 μ15 => 
  some (r16, μ15))) else (
  f_Me_together_B147 N r8 x11 μ9)) else (
  f_Me_together_B147 N r8 x11 μ9)) else (
  some ((-1 : Int64), μ9)))))
def f_Me_together (N : Nat) (a1 : Int64) (μ : Mm) : Option (Int64 × Mm) :=
  if (μ.1 72 3) = (μ.1 73 3) then (
  bn (f_Jm_min_f86c9 N ((μ.2 72 7)) ((μ.2 73 7)) μ) (fun r3 μ2 => 
  if (0 : Int32) < (lg_cmp a1 (r3 * (27720 : Int64))) then (
  f_Me_together_B45 N a1 μ2) else (
  some (a1, μ2)))) else (
  f_Me_together_B45 N a1 μ)
def f_St_read (N : Nat) (q : Nat) (μ : Mm) : Option Mm :=
  let w2 := (μ.1 q 0).toNatClampNeg
  if w2 < 8 then (
  let x3 := (μ.1 q 1)
  if ixb x3 24 = true then (
  let μ4 := sI μ q 3 (μ.1 (WK w2 + 1) (x3).toNatClampNeg)
  let w6 := (μ4.1 q 0).toNatClampNeg
  if w6 < 8 then (
  let w8 := (μ4.1 q 0).toNatClampNeg
  if w8 < 8 then (
  bn (f_Wk_legBehind N w8 ((μ4.1 q 1)) μ4) (fun r10 μ9 => 
  if ixb r10 24 = true then (
  let μ11 := sI μ9 q 4 (μ9.1 (WK w6 + 1) (r10).toNatClampNeg)
  let w13 := (μ11.1 q 0).toNatClampNeg
  if w13 < 8 then (
  let x14 := (μ11.1 q 1)
  if ixb x14 25 = true then (
  let μ15 := sL μ11 q 6 ((μ11.2 q 2) + ((μ11.1 (WK w13 + 3) (x14).toNatClampNeg)).toInt64)
  let w17 := (μ15.1 q 0).toNatClampNeg
  if w17 < 8 then (
  let x18 := (μ15.1 q 1)
  if ixb x18 24 = true then (
  let μ19 := sL μ15 q 7 ((μ15.2 q 2) + ((μ15.1 (WK w17 + 4) (x18).toNatClampNeg)).toInt64)
  let w21 := (μ19.1 q 0).toNatClampNeg
  if w21 < 8 then (
  let x22 := ((μ19.1 q 1) + (1 : Int32))
  if ixb x22 25 = true then (
  let μ23 := sL μ19 q 8 ((μ19.2 q 2) + ((μ19.1 (WK w21 + 3) (x22).toNatClampNeg)).toInt64)
  some μ23) else none) else none) else none) else none) else none) else none) else none)) else none) else none) else none) else none
def f_St_goOn_B51 (N : Nat) (q : Nat)   (μ : Mm) : Option Mm :=
  bv (f_St_read N q μ) (fun μ13 => 
  some μ13)
def f_St_goOn (N : Nat) (q : Nat) (μ : Mm) : Option Mm :=
  let w2 := (μ.1 q 0).toNatClampNeg
  if w2 < 8 then (
  if (μ.1 (WK w2) 0) = (3 : Int32) then (
  some μ) else (
  let w5 := (μ.1 q 0).toNatClampNeg
  if w5 < 8 then (
  bn (f_Wk_legBehind N w5 ((μ.1 q 1)) μ) (fun r7 μ6 => 
  let μ8 := sI μ6 q 1 r7
  if (μ8.1 q 1) = (0 : Int32) then (
  let w11 := (μ8.1 q 0).toNatClampNeg
  if w11 < 8 then (
  let μ12 := sL μ8 q 2 ((μ8.2 q 2) + ((μ8.1 (WK w11) 12)).toInt64)
  f_St_goOn_B51 N q μ12) else none) else (
  f_St_goOn_B51 N q μ8))) else none)) else none
def f_Jm_floorMod_f86c9 (N : Nat) (a1 : Int64) (a2 : Int64) (μ : Mm) : Option (Int64 × Mm) :=
  if a2 = (0 : Int64) then none else (
  let x1 := (a1 - a1 / a2 * a2)
  if (0 : Int32) ≤ (lg_cmp (a1 ^^^ a2) (0 : Int64)) then (
  some (x1, μ)) else (
  if (lg_cmp x1 (0 : Int64)) = (0 : Int32) then (
  some (x1, μ)) else (
  some ((x1 + a2), μ))))
def f_St_stand (N : Nat) (q : Nat) (a1 : Int32) (μ : Mm) : Option Mm :=
  let μ1 := sI μ q 3 a1
  let μ2 := sI μ1 q 4 a1
  let μ3 := sI μ2 q 5 (0 : Int32)
  let μ4 := sL μ3 q 6 (-1099511627776 : Int64)
  let μ5 := sL μ4 q 7 (1099511627776 : Int64)
  let μ6 := sL μ5 q 8 (1099511627776 : Int64)
  some μ6
def f_St_set (N : Nat) (q : Nat) (a1 : Nat) (a2 : Int64) (μ : Mm) : Option Mm :=
  let μ1 := sI μ q 0 (nI a1)
  if (μ1.1 (WK a1) 0) = (3 : Int32) then (
  bv (f_St_stand N q ((μ1.1 (WK a1) 3)) μ1) (fun μ3 => 
  some μ3)) else (
  bn (f_Jm_floorMod_f86c9 N ((a2 - (((μ1.1 (WK a1) 7)).toInt64 * (27720 : Int64)))) ((((μ1.1 (WK a1) 12)).toInt64 * (27720 : Int64))) μ1) (fun r5 μ4 => 
  let x6 := (a2 - r5)
  if (27720 : Int64) = (0 : Int64) then none else (
  let μ7 := sL μ4 q 2 (x6 / (27720 : Int64))
  if (27720 : Int64) = (0 : Int64) then none else (
  bn (f_Wk_legAt N a1 ((((r5 / (27720 : Int64))).toInt32)) μ7) (fun r9 μ8 => 
  let μ10 := sI μ8 q 1 r9
  let μ11 := sI μ10 q 5 (μ10.1 (WK a1) 1)
  bv (f_St_read N q μ11) (fun μ12 => 
  some μ12))))))
def f_Me_firstOf_B207 (N : Nat)    (μ : Mm) : Option (Int64 × Mm) :=
  some ((-1 : Int64), μ)
def f_Me_firstOf_B201 (N : Nat)  (k62 : Int64 → Int64 → Int32 → Mm → Option (Int64 × Mm)) (v3 : Int64) (v6 : Int64) (v8 : Int32) (μ : Mm) : Option (Int64 × Mm) :=
  let x28 := (v8 + (1 : Int32))
  k62 v3 v6 x28 μ
def f_Me_firstOf_B181 (N : Nat)  (k62 : Int64 → Int64 → Int32 → Mm → Option (Int64 × Mm)) (v3 : Int64) (v6 : Int64) (v8 : Int32) (v13 : Int64) (μ : Mm) : Option (Int64 × Mm) :=
  if (0 : Int32) < (lg_cmp (μ.2 73 8) v13) then (
  f_Me_firstOf_B201 N k62 v3 v6 v8 μ) else (
  bv (f_St_goOn N 73 μ) (fun μ27 => 
  f_Me_firstOf_B201 N k62 v3 v6 v8 μ27))
def f_Me_firstOf_B157 (N : Nat)    (μ : Mm) : Option (Int64 × Mm) :=
  some ((-1 : Int64), μ)
def f_Me_firstOf_B105 (N : Nat)    (μ : Mm) : Option (Int64 × Mm) :=
  some ((-1 : Int64), μ)
def f_Me_firstOf_L62 (N : Nat)   : Nat → Int64 → Int64 → Int32 → Mm → Option (Int64 × Mm)
  | 0, _, _, _, _ => none
  | n + 1, v3, v6, v8, μ =>
    if (2980 : Int32) ≤ v8 then (
    f_Me_firstOf_B207 N μ) else (
    bn (f_Jm_max_f86c9 N ((μ.2 72 6)) ((μ.2 73 6)) μ) (fun r14 μ13 => 
    bn (f_Jm_max_f86c9 N v3 ((r14 * (27720 : Int64))) μ13) (fun r16 μ15 => 
    if (lg_cmp r16 v6) ≤ (0 : Int32) then (
    bn (f_Me_together N r16 μ15) (fun r19 μ18 => 
    if (lg_cmp r19 (-1 : Int64)) = (0 : Int32) then (
    bn (f_Jm_min_f86c9 N ((μ18.2 72 8)) ((μ18.2 73 8)) μ18) (fun r22 μ21 => 
    if (lg_cmp r22 (1099511627776 : Int64)) < (0 : Int32) then (
    if (0 : Int32) < (lg_cmp (μ21.2 72 8) r22) then (
    f_Me_firstOf_B181 N (f_Me_firstOf_L62 N n) v3 v6 v8 r22 μ21) else (
    bv (f_St_goOn N 72 μ21) (fun μ25 => 
    f_Me_firstOf_B181 N (f_Me_firstOf_L62 N n) v3 v6 v8 r22 μ25))) else (
    f_Me_firstOf_B157 N μ21))) else (
    some (r19, μ18)))) else (
    f_Me_firstOf_B105 N μ15))))
def f_Me_firstOf (N : Nat) (a1 : Int32) (a2 : Int32) (a3 : Int64) (μ : Mm) : Option (Int64 × Mm) :=
  bn (f_Cr_jointOf N ((((1 : Int32) <<< (a1 &&& 31)) ||| ((1 : Int32) <<< (a2 &&& 31)))) μ) (fun r2 μ1 => 
  let x3 := (a3 + ((r2).toInt64 * (27720 : Int64)))
  bn (f_Cr_get N a1 μ1) (fun r5 μ4 => 
  if r5 < 8 then (
  bv (f_St_set N 72 r5 a3 μ4) (fun μ7 => 
  bn (f_Cr_get N a2 μ7) (fun r9 μ8 => 
  if r9 < 8 then (
  bv (f_St_set N 73 r9 a3 μ8) (fun μ11 => 
  f_Me_firstOf_L62 N N a3 x3 (0 : Int32) μ11)) else none))) else none))
def f_Me_earliest_B54 (N : Nat)  (k5 : Int32 → Int32 → Int32 → Mm → Option (Int32 × Mm)) (v1 : Int32) (v2 : Int32) (v3 : Int32) (μ : Mm) : Option (Int32 × Mm) :=
  let x6 := (v3 + (1 : Int32))
  k5 v1 v2 x6 μ
def f_Me_earliest_B52 (N : Nat)  (k5 : Int32 → Int32 → Int32 → Mm → Option (Int32 × Mm)) (v1 : Int32) (v3 : Int32) (μ : Mm) : Option (Int32 × Mm) :=
  f_Me_earliest_B54 N k5 v1 v3 v3 μ
def f_Me_earliest_L5 (N : Nat)   : Nat → Int32 → Int32 → Int32 → Mm → Option (Int32 × Mm)
  | 0, _, _, _, _ => none
  | n + 1, v1, v2, v3, μ =>
    if (8 : Int32) ≤ v3 then (
    some (v2, μ)) else (
    if ((v1 >>> (v3 &&& 31)) &&& (1 : Int32)) = (0 : Int32) then (
    f_Me_earliest_B54 N (f_Me_earliest_L5 N n) v1 v2 v3 μ) else (
    if ixb v3 8 = true then (
    if (lg_cmp (μ.2 74 (v3).toNatClampNeg) (-1 : Int64)) = (0 : Int32) then (
    f_Me_earliest_B54 N (f_Me_earliest_L5 N n) v1 v2 v3 μ) else (
    if v2 < (0 : Int32) then (
    f_Me_earliest_B52 N (f_Me_earliest_L5 N n) v1 v3 μ) else (
    if ixb v3 8 = true then (
    if ixb v2 8 = true then (
    if (0 : Int32) ≤ (lg_cmp (μ.2 74 (v3).toNatClampNeg) (μ.2 74 (v2).toNatClampNeg)) then (
    f_Me_earliest_B54 N (f_Me_earliest_L5 N n) v1 v2 v3 μ) else (
    f_Me_earliest_B52 N (f_Me_earliest_L5 N n) v1 v3 μ)) else none) else none))) else none))
def f_Me_earliest (N : Nat) (a1 : Int32) (μ : Mm) : Option (Int32 × Mm) :=
  f_Me_earliest_L5 N N a1 (-9 : Int32) (0 : Int32) μ
def f_Me_tellOthers_B75 (N : Nat)  (k2 : Int32 → Int32 → Int32 → Mm → Option Mm) (v1 : Int32) (v2 : Int32) (v3 : Int32) (μ : Mm) : Option Mm :=
  let x9 := (v3 + (1 : Int32))
  k2 v1 v2 x9 μ
def f_Me_tellOthers_B67 (N : Nat)  (k2 : Int32 → Int32 → Int32 → Mm → Option Mm) (v1 : Int32) (v2 : Int32) (v3 : Int32) (v4 : Int64) (μ : Mm) : Option Mm :=
  if ixb v3 8 = true then (
  let μ8 := sL μ 74 (v3).toNatClampNeg v4
  f_Me_tellOthers_B75 N k2 v1 v2 v3 μ8) else none
def f_Me_tellOthers_L2 (N : Nat)   : Nat → Int32 → Int32 → Int32 → Mm → Option Mm
  | 0, _, _, _, _ => none
  | n + 1, v1, v2, v3, μ =>
    if (8 : Int32) ≤ v3 then (
    some μ) else (
    if ((v2 >>> (v3 &&& 31)) &&& (1 : Int32)) = (0 : Int32) then (
    f_Me_tellOthers_B75 N (f_Me_tellOthers_L2 N n) v1 v2 v3 μ) else (
    if ixb v1 8 = true then (
    bn (f_Me_firstOf N v1 v3 ((μ.2 74 (v1).toNatClampNeg)) μ) (fun r4 μ3 => 
    if (lg_cmp r4 (-1 : Int64)) = (0 : Int32) then (
    f_Me_tellOthers_B75 N (f_Me_tellOthers_L2 N n) v1 v2 v3 μ3) else (
    if ixb v3 8 = true then (
    if (lg_cmp (μ3.2 74 (v3).toNatClampNeg) (-1 : Int64)) = (0 : Int32) then (
    f_Me_tellOthers_B67 N (f_Me_tellOthers_L2 N n) v1 v2 v3 r4 μ3) else (
    if ixb v3 8 = true then (
    if (0 : Int32) ≤ (lg_cmp r4 (μ3.2 74 (v3).toNatClampNeg)) then (
    f_Me_tellOthers_B75 N (f_Me_tellOthers_L2 N n) v1 v2 v3 μ3) else (
    f_Me_tellOthers_B67 N (f_Me_tellOthers_L2 N n) v1 v2 v3 r4 μ3)) else none)) else none))) else none))
def f_Me_tellOthers (N : Nat) (a1 : Int32) (a2 : Int32) (μ : Mm) : Option Mm :=
  f_Me_tellOthers_L2 N N a1 a2 (0 : Int32) μ
def f_Me_pass_B76 (N : Nat)   (v6 : Int32) (μ : Mm) : Option (Int32 × Mm) :=
  some (v6, μ)
def f_Me_pass_L48 (N : Nat)   : Nat → Int32 → Int32 → Int32 → Int32 → Mm → Option (Int32 × Mm)
  | 0, _, _, _, _, _ => none
  | n + 1, v4, v5, v6, v7, μ =>
    if (8 : Int32) ≤ v7 then (
    some (v6, μ)) else (
    if (v6 &&& v4) = (0 : Int32) then (
    bn (f_Me_earliest N v5 μ) (fun r9 μ8 => 
    if (0 : Int32) ≤ r9 then (
    let x11 := (v5 &&& (((1 : Int32) <<< (r9 &&& 31)) ^^^ (-1 : Int32)))
    let x12 := (v6 ||| ((1 : Int32) <<< (r9 &&& 31)))
    bv (f_Me_tellOthers N r9 x11 μ8) (fun μ13 => 
    let x14 := (v7 + (1 : Int32))
    (f_Me_pass_L48 N n) v4 x11 x12 x14 μ13)) else (
    f_Me_pass_B76 N v6 μ8))) else (
    some (v6, μ)))
def f_Me_pass_B26 (N : Nat)   (v1 : Int32) (v2 : Int64) (v4 : Int32) (μ : Mm) : Option (Int32 × Mm) :=
  if ixb v1 8 = true then (
  let μ4 := sL μ 74 (v1).toNatClampNeg v2
  let x5 := (μ4.1 11 2)
  f_Me_pass_L48 N N v4 x5 (0 : Int32) (0 : Int32) μ4) else none
def f_Me_pass_L3 (N : Nat)   : Nat → Int32 → Int64 → Int32 → Int32 → Mm → Option (Int32 × Mm)
  | 0, _, _, _, _, _ => none
  | n + 1, v1, v2, v4, v5, μ =>
    if (8 : Int32) ≤ v5 then (
    f_Me_pass_B26 N v1 v2 v4 μ) else (
    if ixb v5 8 = true then (
    let μ2 := sL μ 74 (v5).toNatClampNeg (-1 : Int64)
    let x3 := (v5 + (1 : Int32))
    (f_Me_pass_L3 N n) v1 v2 v4 x3 μ2) else none)
def f_Me_pass (N : Nat) (a1 : Int32) (a2 : Int64) (a3 : Int32) (μ : Mm) : Option (Int32 × Mm) :=
  f_Me_pass_L3 N N a1 a2 a3 (0 : Int32) μ
def f_Me_wordAt (N : Nat) (a1 : Int32) (μ : Mm) : Option (Int64 × Mm) :=
  if ixb a1 8 = true then (
  some ((μ.2 74 (a1).toNatClampNeg), μ)) else none
def f_Sh_forget_L2 (N : Nat)   : Nat → Int32 → Mm → Option Mm
  | 0, _, _ => none
  | n + 1, v1, μ =>
    if (8 : Int32) ≤ v1 then (
    some μ) else (
    if ixb v1 8 = true then (
    let μ2 := sI μ 80 (v1).toNatClampNeg (-9 : Int32)
    if ixb v1 8 = true then (
    let μ3 := sI μ2 81 (v1).toNatClampNeg (-9 : Int32)
    let x4 := (v1 + (1 : Int32))
    (f_Sh_forget_L2 N n) x4 μ3) else none) else none)
def f_Sh_forget (N : Nat)  (μ : Mm) : Option Mm :=
  f_Sh_forget_L2 N N (0 : Int32) μ
def f_Sh_give_B18 (N : Nat)   (v1 : Int32) (v2 : Int32) (μ : Mm) : Option Mm :=
  if ixb v1 8 = true then (
  let μ3 := sI μ 81 (v1).toNatClampNeg v2
  some μ3) else none
def f_Sh_give (N : Nat) (a1 : Int32) (a2 : Int32) (μ : Mm) : Option Mm :=
  if ixb a1 8 = true then (
  if (μ.1 80 (a1).toNatClampNeg) = (-9 : Int32) then (
  if ixb a1 8 = true then (
  let μ2 := sI μ 80 (a1).toNatClampNeg a2
  f_Sh_give_B18 N a1 a2 μ2) else none) else (
  f_Sh_give_B18 N a1 a2 μ)) else none
def f_Sh_place (N : Nat) (a1 : Int32) (a2 : Int32) (μ : Mm) : Option (Int32 × Mm) :=
  some (((a1 * (17 : Int32)) + a2), μ)
def f_Sh_timeOf (N : Nat) (a1 : Int32) (a2 : Int32) (μ : Mm) : Option (Int32 × Mm) :=
  if ixb a1 5 = true then (
  bn (f_Cr_get N ((μ.1 82 (a1).toNatClampNeg)) μ) (fun r2 μ1 => 
  if r2 < 8 then (
  bn (f_Wk_unitParts N r2 μ1) (fun r5 μ4 => 
  some ((((2 : Int32) * r5) * a2), μ4))) else none)) else none
def f_Sh_canEnd_B43 (N : Nat)  (k7 : Int32 → Int32 → Int32 → Int32 → Int32 → Int32 → Mm → Option (Int32 × Mm)) (v1 : Int32) (v3 : Int32) (v4 : Int32) (v5 : Int32) (v6 : Int32) (v7 : Int32) (s0 : Int32) (μ : Mm) : Option (Int32 × Mm) :=
  let x5 := (v6 + s0)
  if s0 < (0 : Int32) then (
  some ((0 : Int32), μ)) else (
  bn (f_Sh_timeOf N v1 x5 μ) (fun r8 μ7 => 
  if r8 ≤ v5 then (
  bn (f_Sh_place N v3 ((v7 + (1 : Int32))) μ7) (fun r11 μ10 => 
  if ixb r11 544 = true then (
  if v5 < (μ10.1 83 (r11).toNatClampNeg) then (
  let x13 := (v7 + (1 : Int32))
  k7 v1 v3 v4 v5 x5 x13 μ10) else (
  some ((1 : Int32), μ10))) else none)) else (
  some ((0 : Int32), μ7))))
def f_Sh_canEnd_L7 (N : Nat)   : Nat → Int32 → Int32 → Int32 → Int32 → Int32 → Int32 → Mm → Option (Int32 × Mm)
  | 0, _, _, _, _, _, _, _ => none
  | n + 1, v1, v3, v4, v5, v6, v7, μ =>
    if (μ.1 6 1) ≤ v7 then (
    some ((0 : Int32), μ)) else (
    if v7 ≤ v4 then (
    f_Sh_canEnd_B43 N (f_Sh_canEnd_L7 N n) v1 v3 v4 v5 v6 v7 (0 : Int32) μ) else (
    bn (f_Gr_lengthOf N ((v7 - (1 : Int32))) v7 μ) (fun r4 μ3 => 
    f_Sh_canEnd_B43 N (f_Sh_canEnd_L7 N n) v1 v3 v4 v5 v6 v7 r4 μ3)))
def f_Sh_canEnd (N : Nat) (a1 : Int32) (a2 : Int32) (a3 : Int32) (a4 : Int32) (a5 : Int32) (μ : Mm) : Option (Int32 × Mm) :=
  f_Sh_canEnd_L7 N N a1 a3 a4 a5 a2 a4 μ
def f_Sh_leastOwner_B89 (N : Nat)  (k3 : Int32 → Int32 → Int32 → Int32 → Int32 → Int32 → Mm → Option (Int32 × Mm)) (v1 : Int32) (v2 : Int32) (v3 : Int32) (v4 : Int32) (v5 : Int32) (v6 : Int32) (μ : Mm) : Option (Int32 × Mm) :=
  let x11 := (v6 + (1 : Int32))
  k3 v1 v2 v3 v4 v5 x11 μ
def f_Sh_leastOwner_B68 (N : Nat)  (k3 : Int32 → Int32 → Int32 → Int32 → Int32 → Int32 → Mm → Option (Int32 × Mm)) (v1 : Int32) (v2 : Int32) (v3 : Int32) (v4 : Int32) (v5 : Int32) (v6 : Int32) (s1 : Int32) (s2 : Int32) (μ : Mm) : Option (Int32 × Mm) :=
  bn (f_Sh_canEnd N s1 s2 ((v3 &&& (((1 : Int32) <<< (v6 &&& 31)) ^^^ (-1 : Int32)))) v4 v5 μ) (fun r9 μ8 => 
  if r9 = (0 : Int32) then (
  f_Sh_leastOwner_B89 N k3 v1 v2 v3 v4 v5 v6 μ8) else (
  some (v6, μ8)))
def f_Sh_leastOwner_B55 (N : Nat)  (k3 : Int32 → Int32 → Int32 → Int32 → Int32 → Int32 → Mm → Option (Int32 × Mm)) (v1 : Int32) (v2 : Int32) (v3 : Int32) (v4 : Int32) (v5 : Int32) (v6 : Int32) (v7 : Int32) (μ : Mm) : Option (Int32 × Mm) :=
  if v7 = (0 : Int32) then (
  f_Sh_leastOwner_B68 N k3 v1 v2 v3 v4 v5 v6 v6 (0 : Int32) μ) else (
  f_Sh_leastOwner_B68 N k3 v1 v2 v3 v4 v5 v6 v6 v2 μ)
def f_Sh_leastOwner_B43 (N : Nat)  (k3 : Int32 → Int32 → Int32 → Int32 → Int32 → Int32 → Mm → Option (Int32 × Mm)) (v1 : Int32) (v2 : Int32) (v3 : Int32) (v4 : Int32) (v5 : Int32) (v6 : Int32) (v7 : Int32) (s0 : Int32) (μ : Mm) : Option (Int32 × Mm) :=
  if v7 = (0 : Int32) then (
  if s0 = (0 : Int32) then (
  f_Sh_leastOwner_B89 N k3 v1 v2 v3 v4 v5 v6 μ) else (
  f_Sh_leastOwner_B55 N k3 v1 v2 v3 v4 v5 v6 v7 μ)) else (
  f_Sh_leastOwner_B55 N k3 v1 v2 v3 v4 v5 v6 v7 μ)
def f_Sh_leastOwner_B27 (N : Nat)  (k3 : Int32 → Int32 → Int32 → Int32 → Int32 → Int32 → Mm → Option (Int32 × Mm)) (v1 : Int32) (v2 : Int32) (v3 : Int32) (v4 : Int32) (v5 : Int32) (v6 : Int32) (s0 : Int32) (μ : Mm) : Option (Int32 × Mm) :=
  if ((v3 >>> (v6 &&& 31)) &&& (1 : Int32)) = (0 : Int32) then (
  f_Sh_leastOwner_B43 N k3 v1 v2 v3 v4 v5 v6 s0 (0 : Int32) μ) else (
  f_Sh_leastOwner_B43 N k3 v1 v2 v3 v4 v5 v6 s0 (1 : Int32) μ)
def f_Sh_leastOwner_B26 (N : Nat)  (k3 : Int32 → Int32 → Int32 → Int32 → Int32 → Int32 → Mm → Option (Int32 × Mm)) (v1 : Int32) (v2 : Int32) (v3 : Int32) (v4 : Int32) (v5 : Int32) (v6 : Int32) (μ : Mm) : Option (Int32 × Mm) :=
  f_Sh_leastOwner_B27 N k3 v1 v2 v3 v4 v5 v6 (0 : Int32) μ
def f_Sh_leastOwner_L3 (N : Nat)   : Nat → Int32 → Int32 → Int32 → Int32 → Int32 → Int32 → Mm → Option (Int32 × Mm)
  | 0, _, _, _, _, _, _, _ => none
  | n + 1, v1, v2, v3, v4, v5, v6, μ =>
    if (μ.1 79 6) ≤ v6 then (
    some ((-9 : Int32), μ)) else (
    if v6 = v1 then (
    if v2 < (0 : Int32) then (
    f_Sh_leastOwner_B26 N (f_Sh_leastOwner_L3 N n) v1 v2 v3 v4 v5 v6 μ) else (
    f_Sh_leastOwner_B27 N (f_Sh_leastOwner_L3 N n) v1 v2 v3 v4 v5 v6 (1 : Int32) μ)) else (
    f_Sh_leastOwner_B26 N (f_Sh_leastOwner_L3 N n) v1 v2 v3 v4 v5 v6 μ))
def f_Sh_leastOwner (N : Nat) (a1 : Int32) (a2 : Int32) (a3 : Int32) (a4 : Int32) (a5 : Int32) (μ : Mm) : Option (Int32 × Mm) :=
  f_Sh_leastOwner_L3 N N a1 a2 a3 a4 a5 (0 : Int32) μ
def f_Sh_dealOut_B97 (N : Nat)  (k12 : Int32 → Int32 → Int32 → Int32 → Int32 → Mm → Option Mm) (v2 : Int32) (v3 : Int32) (v6 : Int32) (v9 : Int32) (s0 : Int32) (μ : Mm) : Option Mm :=
  let x10 := (v3 &&& (((1 : Int32) <<< (v9 &&& 31)) ^^^ (-1 : Int32)))
  if ixb v9 5 = true then (
  bv (f_Sh_give N ((μ.1 82 (v9).toNatClampNeg)) v6 μ) (fun μ11 => 
  let x12 := (v6 + (1 : Int32))
  k12 v2 x10 v9 s0 x12 μ11)) else none
def f_Sh_dealOut_B62 (N : Nat)  (k12 : Int32 → Int32 → Int32 → Int32 → Int32 → Mm → Option Mm) (v2 : Int32) (v3 : Int32) (v4 : Int32) (v6 : Int32) (s0 : Int32) (μ : Mm) : Option Mm :=
  bn (f_Sh_leastOwner N v4 s0 v3 v6 v2 μ) (fun r7 μ6 => 
  if (0 : Int32) ≤ r7 then (
  if r7 = v4 then (
  f_Sh_dealOut_B97 N k12 v2 v3 v6 r7 s0 μ6) else (
  f_Sh_dealOut_B97 N k12 v2 v3 v6 r7 (0 : Int32) μ6)) else (
  some μ6))
def f_Sh_dealOut_B46 (N : Nat)  (k12 : Int32 → Int32 → Int32 → Int32 → Int32 → Mm → Option Mm) (v2 : Int32) (v3 : Int32) (v4 : Int32) (v5 : Int32) (v6 : Int32) (s0 : Int32) (μ : Mm) : Option Mm :=
  if (0 : Int32) ≤ s0 then (
  f_Sh_dealOut_B62 N k12 v2 v3 v4 v6 (v5 + s0) μ) else (
  f_Sh_dealOut_B62 N k12 v2 v3 v4 v6 (-1 : Int32) μ)
def f_Sh_dealOut_L12 (N : Nat)   : Nat → Int32 → Int32 → Int32 → Int32 → Int32 → Mm → Option Mm
  | 0, _, _, _, _, _, _ => none
  | n + 1, v2, v3, v4, v5, v6, μ =>
    if (μ.1 6 1) ≤ v6 then (
    some μ) else (
    if v6 ≤ (0 : Int32) then (
    f_Sh_dealOut_B46 N (f_Sh_dealOut_L12 N n) v2 v3 v4 v5 v6 (0 : Int32) μ) else (
    bn (f_Gr_lengthOf N ((v6 - (1 : Int32))) v6 μ) (fun r4 μ3 => 
    f_Sh_dealOut_B46 N (f_Sh_dealOut_L12 N n) v2 v3 v4 v5 v6 r4 μ3)))
def f_Sh_dealOut (N : Nat) (a1 : Int32) (a2 : Int32) (μ : Mm) : Option Mm :=
  f_Sh_dealOut_L12 N N a2 a1 (-9 : Int32) (0 : Int32) (0 : Int32) μ
def f_Sh_gatherSharers_B77 (N : Nat)  (k7 : Int32 → Mm → Option Mm) (v1 : Int32) (μ : Mm) : Option Mm :=
  let x13 := (v1 + (1 : Int32))
  k7 x13 μ
def f_Sh_gatherSharers_L7 (N : Nat)   : Nat → Int32 → Mm → Option Mm
  | 0, _, _ => none
  | n + 1, v1, μ =>
    if (μ.1 11 1) ≤ v1 then (
    some μ) else (
    if (5 : Int32) ≤ (μ.1 79 6) then (
    some μ) else (
    bn (f_Cr_get N v1 μ) (fun r5 μ4 => 
    if r5 < 8 then (
    if (μ4.1 (WK r5) 6) = (0 : Int32) then (
    if (μ4.1 (WK r5) 5) = (0 : Int32) then (
    if (μ4.1 (WK r5) 0) = (3 : Int32) then (
    f_Sh_gatherSharers_B77 N (f_Sh_gatherSharers_L7 N n) v1 μ4) else (
    let x10 := (μ4.1 79 6)
    if ixb x10 5 = true then (
    let μ11 := sI μ4 82 (x10).toNatClampNeg v1
    let μ12 := sI μ11 79 6 ((μ11.1 79 6) + (1 : Int32))
    f_Sh_gatherSharers_B77 N (f_Sh_gatherSharers_L7 N n) v1 μ12) else none)) else (
    f_Sh_gatherSharers_B77 N (f_Sh_gatherSharers_L7 N n) v1 μ4)) else (
    f_Sh_gatherSharers_B77 N (f_Sh_gatherSharers_L7 N n) v1 μ4)) else none)))
def f_Sh_gatherSharers (N : Nat)  (μ : Mm) : Option Mm :=
  let μ1 := sI μ 79 6 (0 : Int32)
  f_Sh_gatherSharers_L7 N N (0 : Int32) μ1
def f_Jm_min_7cf53 (N : Nat) (a1 : Int32) (a2 : Int32) (μ : Mm) : Option (Int32 × Mm) :=
  if a2 < a1 then (
  some (a2, μ)) else (
  some (a1, μ))
def f_Sh_leastWith_B75 (N : Nat)   (v4 : Int32) (μ : Mm) : Option (Int32 × Mm) :=
  some (v4, μ)
def f_Sh_leastWith_B45 (N : Nat)  (k10 : Int32 → Int32 → Int32 → Int32 → Int32 → Int32 → Mm → Option (Int32 × Mm)) (v1 : Int32) (v2 : Int32) (v3 : Int32) (v4 : Int32) (v5 : Int32) (v6 : Int32) (s0 : Int32) (μ : Mm) : Option (Int32 × Mm) :=
  let x5 := (v5 + s0)
  bn (f_Sh_timeOf N v1 x5 μ) (fun r7 μ6 => 
  if s0 < (0 : Int32) then (
  some (v4, μ6)) else (
  if r7 < v4 then (
  bn (f_Sh_place N v2 ((v6 + (1 : Int32))) μ6) (fun r11 μ10 => 
  if ixb r11 544 = true then (
  bn (f_Jm_max_7cf53 N r7 ((μ10.1 83 (r11).toNatClampNeg)) μ10) (fun r13 μ12 => 
  bn (f_Jm_min_7cf53 N v4 r13 μ12) (fun r15 μ14 => 
  let x16 := (v6 + (1 : Int32))
  k10 v1 v2 v3 r15 x5 x16 μ14))) else none)) else (
  f_Sh_leastWith_B75 N v4 μ6)))
def f_Sh_leastWith_L10 (N : Nat)   : Nat → Int32 → Int32 → Int32 → Int32 → Int32 → Int32 → Mm → Option (Int32 × Mm)
  | 0, _, _, _, _, _, _, _ => none
  | n + 1, v1, v2, v3, v4, v5, v6, μ =>
    if (μ.1 6 1) ≤ v6 then (
    some (v4, μ)) else (
    if v6 ≤ v3 then (
    f_Sh_leastWith_B45 N (f_Sh_leastWith_L10 N n) v1 v2 v3 v4 v5 v6 (0 : Int32) μ) else (
    bn (f_Gr_lengthOf N ((v6 - (1 : Int32))) v6 μ) (fun r4 μ3 => 
    f_Sh_leastWith_B45 N (f_Sh_leastWith_L10 N n) v1 v2 v3 v4 v5 v6 r4 μ3)))
def f_Sh_leastWith (N : Nat) (a1 : Int32) (a2 : Int32) (a3 : Int32) (μ : Mm) : Option (Int32 × Mm) :=
  f_Sh_leastWith_L10 N N a1 a2 a3 (1000000 : Int32) (0 : Int32) a3 μ
def f_Sh_leastOf_B44 (N : Nat)  (k6 : Int32 → Int32 → Int32 → Int32 → Mm → Option (Int32 × Mm)) (v1 : Int32) (v2 : Int32) (v3 : Int32) (v4 : Int32) (μ : Mm) : Option (Int32 × Mm) :=
  let x7 := (v4 + (1 : Int32))
  k6 v1 v2 v3 x7 μ
def f_Sh_leastOf_L6 (N : Nat)   : Nat → Int32 → Int32 → Int32 → Int32 → Mm → Option (Int32 × Mm)
  | 0, _, _, _, _, _ => none
  | n + 1, v1, v2, v3, v4, μ =>
    if (μ.1 79 6) ≤ v4 then (
    some (v3, μ)) else (
    if ((v1 >>> (v4 &&& 31)) &&& (1 : Int32)) = (0 : Int32) then (
    f_Sh_leastOf_B44 N (f_Sh_leastOf_L6 N n) v1 v2 v3 v4 μ) else (
    bn (f_Sh_leastWith N v4 ((v1 &&& (((1 : Int32) <<< (v4 &&& 31)) ^^^ (-1 : Int32)))) v2 μ) (fun r4 μ3 => 
    bn (f_Jm_min_7cf53 N v3 r4 μ3) (fun r6 μ5 => 
    f_Sh_leastOf_B44 N (f_Sh_leastOf_L6 N n) v1 v2 r6 v4 μ5))))
def f_Sh_leastOf (N : Nat) (a1 : Int32) (a2 : Int32) (μ : Mm) : Option (Int32 × Mm) :=
  f_Sh_leastOf_L6 N N a1 a2 (1000000 : Int32) (0 : Int32) μ
def f_Sh_settle_B90 (N : Nat)   (v1 : Int32) (μ : Mm) : Option (Int32 × Mm) :=
  bn (f_Sh_place N v1 ((0 : Int32)) μ) (fun r18 μ17 => 
  if ixb r18 544 = true then (
  let x19 := (μ17.1 83 (r18).toNatClampNeg)
  if x19 < (1000000 : Int32) then (
  bv (f_Sh_forget N μ17) (fun μ21 => 
  bv (f_Sh_dealOut N v1 x19 μ21) (fun μ22 => 
  some (x19, μ22)))) else (
  some ((-4 : Int32), μ17))) else none)
def f_Sh_settle_B84 (N : Nat)  (k26 : Int32 → Int32 → Mm → Option (Int32 × Mm)) (v1 : Int32) (v2 : Int32) (μ : Mm) : Option (Int32 × Mm) :=
  let x16 := (v2 + (1 : Int32))
  k26 v1 x16 μ
def f_Sh_settle_L58 (N : Nat)  (k26 : Int32 → Int32 → Mm → Option (Int32 × Mm)) : Nat → Int32 → Int32 → Int32 → Mm → Option (Int32 × Mm)
  | 0, _, _, _, _ => none
  | n + 1, v1, v2, v3, μ =>
    if v3 < (0 : Int32) then (
    f_Sh_settle_B84 N k26 v1 v2 μ) else (
    bn (f_Sh_place N v2 v3 μ) (fun r11 μ10 => 
    bn (f_Sh_leastOf N v2 v3 μ10) (fun r13 μ12 => 
    if ixb r11 544 = true then (
    let μ14 := sI μ12 83 (r11).toNatClampNeg r13
    let x15 := (v3 + (-1 : Int32))
    (f_Sh_settle_L58 N k26 n) v1 v2 x15 μ14) else none)))
def f_Sh_settle_L26 (N : Nat)   : Nat → Int32 → Int32 → Mm → Option (Int32 × Mm)
  | 0, _, _, _ => none
  | n + 1, v1, v2, μ =>
    if v1 < v2 then (
    f_Sh_settle_B90 N v1 μ) else (
    bn (f_Sh_place N v2 ((μ.1 6 1)) μ) (fun r6 μ5 => 
    if ixb r6 544 = true then (
    let μ7 := sI μ5 83 (r6).toNatClampNeg (0 : Int32)
    let x8 := ((μ7.1 6 1) - (1 : Int32))
    f_Sh_settle_L58 N (f_Sh_settle_L26 N n) N v1 v2 x8 μ7) else none))
def f_Sh_settle (N : Nat)  (μ : Mm) : Option (Int32 × Mm) :=
  bv (f_Sh_gatherSharers N μ) (fun μ1 => 
  if (1 : Int32) ≤ (μ1.1 79 6) then (
  let x3 := (((1 : Int32) <<< ((μ1.1 79 6) &&& 31)) - (1 : Int32))
  f_Sh_settle_L26 N N x3 (0 : Int32) μ1) else (
  some ((-4 : Int32), μ1)))
def f_Sf_lacks (N : Nat) (a1 : Int32) (μ : Mm) : Option (Int32 × Mm) :=
  if ixb a1 8 = true then (
  if (μ.1 5 (a1).toNatClampNeg) = (-1 : Int32) then (
  some ((1 : Int32), μ)) else (
  some ((0 : Int32), μ))) else none
def f_Sf_sizeOf (N : Nat) (a1 : Int32) (μ : Mm) : Option (Int32 × Mm) :=
  if ixb a1 8 = true then (
  some ((μ.1 5 (a1).toNatClampNeg), μ)) else none
def f_Sf_byteAt (N : Nat) (a1 : Int32) (a2 : Int32) (μ : Mm) : Option (Int32 × Mm) :=
  let x1 := ((a1 * (40 : Int32)) + a2)
  if ixb x1 320 = true then (
  some ((μ.1 4 (x1).toNatClampNeg), μ)) else none
def f_Sf_write (N : Nat) (a1 : Int32) (a2 : Int32) (a3 : Int32) (μ : Mm) : Option Mm :=
  let x1 := (a3).toInt8.toInt32
  let x2 := ((a1 * (40 : Int32)) + a2)
  if ixb x2 320 = true then (
  let μ3 := sI μ 4 (x2).toNatClampNeg (vp_nar .byte x1)
  some μ3) else none
def f_Sf_put_L9 (N : Nat)   : Nat → Int32 → Int32 → Int32 → Mm → Option Mm
  | 0, _, _, _, _ => none
  | n + 1, v1, v2, v3, μ =>
    if v2 ≤ v3 then (
    some μ) else (
    bv (f_Sf_write N v1 v3 ((0 : Int32)) μ) (fun μ3 => 
    let x4 := (v3 + (1 : Int32))
    (f_Sf_put_L9 N n) v1 v2 x4 μ3))
def f_Sf_put (N : Nat) (a1 : Int32) (a2 : Int32) (μ : Mm) : Option Mm :=
  if ixb a1 8 = true then (
  let μ1 := sI μ 5 (a1).toNatClampNeg a2
  f_Sf_put_L9 N N a1 a2 (0 : Int32) μ1) else none
def f_Sf_remove (N : Nat) (a1 : Int32) (μ : Mm) : Option Mm :=
  if ixb a1 8 = true then (
  let μ1 := sI μ 5 (a1).toNatClampNeg (-1 : Int32)
  some μ1) else none
def f_Sf_holds (N : Nat) (a1 : Int32) (a2 : Int32) (a3 : Int32) (μ : Mm) : Option (Int32 × Mm) :=
  if a2 < (0 : Int32) then (
  some ((0 : Int32), μ)) else (
  if a3 < (0 : Int32) then (
  some ((0 : Int32), μ)) else (
  if ixb a1 8 = true then (
  if (μ.1 5 (a1).toNatClampNeg) < a2 then (
  some ((0 : Int32), μ)) else (
  if ixb a1 8 = true then (
  if ((μ.1 5 (a1).toNatClampNeg) - a2) < a3 then (
  some ((0 : Int32), μ)) else (
  some ((1 : Int32), μ))) else none)) else none))
def f_Sf_move (N : Nat) (a1 : Int32) (a2 : Int32) (a3 : Int32) (a4 : Int32) (a5 : Int32) (μ : Mm) : Option Mm :=
  let x1 := ((a3 * (40 : Int32)) + a4)
  let x2 := ((a1 * (40 : Int32)) + a2)
  if cpb μ 4 320 x2 x1 a5 = true then (
  let μ3 := sA μ 4 (va_cpy (μ.1 4) (μ.1 4) (x2).toNatClampNeg (x1).toNatClampNeg (a5).toNatClampNeg)
  some μ3) else none
def f_Sf_sumOf_L4 (N : Nat)   : Nat → Int32 → Int32 → Int32 → Mm → Option (Int32 × Mm)
  | 0, _, _, _, _ => none
  | n + 1, v1, v2, v3, μ =>
    if ixb v1 8 = true then (
    if (μ.1 5 (v1).toNatClampNeg) ≤ v3 then (
    some (v2, μ)) else (
    bn (f_Sf_byteAt N v1 v3 μ) (fun r3 μ2 => 
    let x4 := (v2 + r3)
    let x5 := (v3 + (1 : Int32))
    (f_Sf_sumOf_L4 N n) v1 x4 x5 μ2))) else none
def f_Sf_sumOf (N : Nat) (a1 : Int32) (μ : Mm) : Option (Int32 × Mm) :=
  f_Sf_sumOf_L4 N N a1 (0 : Int32) (0 : Int32) μ
def f_Sf_allWithin_L3 (N : Nat)   : Nat → Int32 → Int32 → Int32 → Int32 → Mm → Option (Int32 × Mm)
  | 0, _, _, _, _, _ => none
  | n + 1, v1, v2, v3, v4, μ =>
    if ixb v1 8 = true then (
    if (μ.1 5 (v1).toNatClampNeg) ≤ v4 then (
    some ((1 : Int32), μ)) else (
    bn (f_Sf_byteAt N v1 v4 μ) (fun r3 μ2 => 
    if r3 < v2 then (
    some ((0 : Int32), μ2)) else (
    bn (f_Sf_byteAt N v1 v4 μ2) (fun r6 μ5 => 
    if r6 ≤ v3 then (
    let x8 := (v4 + (1 : Int32))
    (f_Sf_allWithin_L3 N n) v1 v2 v3 x8 μ5) else (
    some ((0 : Int32), μ5))))))) else none
def f_Sf_allWithin (N : Nat) (a1 : Int32) (a2 : Int32) (a3 : Int32) (μ : Mm) : Option (Int32 × Mm) :=
  f_Sf_allWithin_L3 N N a1 a2 a3 (0 : Int32) μ
def f_Sf_hasTwins_B31 (N : Nat)  (k2 : Int32 → Int32 → Mm → Option (Int32 × Mm)) (v1 : Int32) (v2 : Int32) (s0 : Int32) (μ : Mm) : Option (Int32 × Mm) :=
  bn (f_Sf_byteAt N v1 v2 μ) (fun r4 μ3 => 
  bn (f_Sf_byteAt N v1 s0 μ3) (fun r6 μ5 => 
  if r4 = r6 then (
  some ((1 : Int32), μ5)) else (
  let x8 := (v2 + (1 : Int32))
  k2 v1 x8 μ5)))
def f_Sf_hasTwins_L2 (N : Nat)   : Nat → Int32 → Int32 → Mm → Option (Int32 × Mm)
  | 0, _, _, _ => none
  | n + 1, v1, v2, μ =>
    if ixb v1 8 = true then (
    if (μ.1 5 (v1).toNatClampNeg) ≤ v2 then (
    some ((0 : Int32), μ)) else (
    if ixb v1 8 = true then (
    if (μ.1 5 (v1).toNatClampNeg) ≤ (v2 + (1 : Int32)) then (
    f_Sf_hasTwins_B31 N (f_Sf_hasTwins_L2 N n) v1 v2 (0 : Int32) μ) else (
    f_Sf_hasTwins_B31 N (f_Sf_hasTwins_L2 N n) v1 v2 (v2 + (1 : Int32)) μ)) else none)) else none
def f_Sf_hasTwins (N : Nat) (a1 : Int32) (μ : Mm) : Option (Int32 × Mm) :=
  f_Sf_hasTwins_L2 N N a1 (0 : Int32) μ
def f_Sf_present_B24 (N : Nat)  (k4 : Int32 → Int32 → Mm → Option (Int32 × Mm)) (v2 : Int32) (s0 : Int32) (s1 : Int32) (μ : Mm) : Option (Int32 × Mm) :=
  let x5 := (s0 + s1)
  let x6 := (v2 + (1 : Int32))
  k4 x5 x6 μ
def f_Sf_present_L4 (N : Nat)   : Nat → Int32 → Int32 → Mm → Option (Int32 × Mm)
  | 0, _, _, _ => none
  | n + 1, v1, v2, μ =>
    if (8 : Int32) ≤ v2 then (
    some (v1, μ)) else (
    bn (f_Sf_lacks N v2 μ) (fun r3 μ2 => 
    if r3 = (0 : Int32) then (
    f_Sf_present_B24 N (f_Sf_present_L4 N n) v2 v1 (1 : Int32) μ2) else (
    f_Sf_present_B24 N (f_Sf_present_L4 N n) v2 v1 (0 : Int32) μ2)))
def f_Sf_present (N : Nat)  (μ : Mm) : Option (Int32 × Mm) :=
  f_Sf_present_L4 N N (0 : Int32) (0 : Int32) μ
def f_Sf_mixInto_B64 (N : Nat)  (k5 : Int64 → Int32 → Mm → Option (Int64 × Mm)) (v3 : Int64) (v5 : Int32) (μ : Mm) : Option (Int64 × Mm) :=
  let x8 := (v5 + (1 : Int32))
  k5 v3 x8 μ
def f_Sf_mixInto_L30 (N : Nat)  (k5 : Int64 → Int32 → Mm → Option (Int64 × Mm)) : Nat → Int64 → Int32 → Int32 → Mm → Option (Int64 × Mm)
  | 0, _, _, _, _ => none
  | n + 1, v3, v5, v6, μ =>
    if ixb v5 8 = true then (
    if (μ.1 5 (v5).toNatClampNeg) ≤ v6 then (
    f_Sf_mixInto_B64 N k5 v3 v5 μ) else (
    bn (f_Sf_byteAt N v5 v6 μ) (fun r5 μ4 => 
    let x6 := (((31 : Int64) * v3) + (r5).toInt64)
    let x7 := (v6 + (1 : Int32))
    (f_Sf_mixInto_L30 N k5 n) x6 v5 x7 μ4))) else none
def f_Sf_mixInto_L5 (N : Nat)   : Nat → Int64 → Int32 → Mm → Option (Int64 × Mm)
  | 0, _, _, _ => none
  | n + 1, v3, v5, μ =>
    if (8 : Int32) ≤ v5 then (
    some (v3, μ)) else (
    if ixb v5 8 = true then (
    let x2 := (((31 : Int64) * v3) + ((μ.1 5 (v5).toNatClampNeg)).toInt64)
    f_Sf_mixInto_L30 N (f_Sf_mixInto_L5 N n) N x2 v5 (0 : Int32) μ) else none)
def f_Sf_mixInto (N : Nat) (a1 : Int64) (μ : Mm) : Option (Int64 × Mm) :=
  f_Sf_mixInto_L5 N N a1 (0 : Int32) μ
def f_Ta_found (N : Nat) (a1 : Int32) (μ : Mm) : Option (Int32 × Mm) :=
  let μ1 := sI μ 1 1 a1
  if ixb a1 6 = true then (
  let x2 := ((μ1.1 2 (a1).toNatClampNeg) + (1 : Int32))
  if ixb a1 6 = true then (
  let μ3 := sI μ1 2 (a1).toNatClampNeg x2
  some ((-3 : Int32), μ3)) else none) else none
def f_Ta_tellFraction (N : Nat) (a1 : Int64) (a2 : Int64) (μ : Mm) : Option Mm :=
  bn (f_W_gcd N a1 a2 μ) (fun r2 μ1 => 
  if (lg_cmp r2 (0 : Int64)) ≤ (0 : Int32) then (
  some μ1) else (
  if r2 = (0 : Int64) then none else (
  let μ4 := sL μ1 1 3 (a1 / r2)
  if r2 = (0 : Int64) then none else (
  let μ5 := sL μ4 1 4 (a2 / r2)
  some μ5))))
def f_To_stopAt_B21 (N : Nat)    (μ : Mm) : Option (Int32 × Mm) :=
  some ((-9 : Int32), μ)
def f_To_stopAt (N : Nat) (a1 : Int32) (μ : Mm) : Option (Int32 × Mm) :=
  if a1 < (0 : Int32) then (
  f_To_stopAt_B21 N μ) else (
  if (μ.1 75 5) ≤ a1 then (
  f_To_stopAt_B21 N μ) else (
  if (μ.1 75 0) = (-9 : Int32) then (
  f_To_stopAt_B21 N μ) else (
  if ixb a1 10 = true then (
  some ((μ.1 77 (a1).toNatClampNeg), μ)) else none)))
def f_To_way (N : Nat) (a1 : Int32) (a2 : Int32) (μ : Mm) : Option (Int32 × Mm) :=
  if ixb a1 10 = true then (
  if ixb a2 10 = true then (
  bn (f_Gr_farOf N ((μ.1 76 (a1).toNatClampNeg)) ((μ.1 76 (a2).toNatClampNeg)) μ) (fun r2 μ1 => 
  some (r2, μ1))) else none) else none
def f_To_wayOver (N : Nat) (a1 : Int32) (a2 : Int32) (a3 : Int32) (μ : Mm) : Option (Int32 × Mm) :=
  bn (f_To_way N a2 ((a3 + (1 : Int32))) μ) (fun r2 μ1 => 
  let x3 := (((a1 ||| ((1 : Int32) <<< (a3 &&& 31))) * (9 : Int32)) + a3)
  if ixb x3 4608 = true then (
  some ((r2 + (μ1.1 78 (x3).toNatClampNeg)), μ1)) else none)
def f_To_bestBeyond_B39 (N : Nat)  (k6 : Int32 → Int32 → Int32 → Int32 → Mm → Option (Int32 × Mm)) (v1 : Int32) (v2 : Int32) (v3 : Int32) (v4 : Int32) (μ : Mm) : Option (Int32 × Mm) :=
  let x7 := (v4 + (1 : Int32))
  k6 v1 v2 v3 x7 μ
def f_To_bestBeyond_L6 (N : Nat)   : Nat → Int32 → Int32 → Int32 → Int32 → Mm → Option (Int32 × Mm)
  | 0, _, _, _, _, _ => none
  | n + 1, v1, v2, v3, v4, μ =>
    if ((μ.1 75 5) - (1 : Int32)) ≤ v4 then (
    some (v3, μ)) else (
    if ((v1 >>> (v4 &&& 31)) &&& (1 : Int32)) = (0 : Int32) then (
    bn (f_To_wayOver N v1 v2 v4 μ) (fun r4 μ3 => 
    bn (f_Jm_min_7cf53 N v3 r4 μ3) (fun r6 μ5 => 
    f_To_bestBeyond_B39 N (f_To_bestBeyond_L6 N n) v1 v2 r6 v4 μ5))) else (
    f_To_bestBeyond_B39 N (f_To_bestBeyond_L6 N n) v1 v2 v3 v4 μ))
def f_To_bestBeyond (N : Nat) (a1 : Int32) (a2 : Int32) (μ : Mm) : Option (Int32 × Mm) :=
  f_To_bestBeyond_L6 N N a1 a2 (1000000 : Int32) (0 : Int32) μ
def f_To_nextStop_B54 (N : Nat)  (k9 : Int32 → Int32 → Int32 → Int32 → Int32 → Mm → Option (Int32 × Mm)) (v1 : Int32) (v2 : Int32) (v3 : Int32) (v4 : Int32) (v5 : Int32) (μ : Mm) : Option (Int32 × Mm) :=
  let x8 := (v5 + (1 : Int32))
  k9 v1 v2 v3 v4 x8 μ
def f_To_nextStop_L9 (N : Nat)   : Nat → Int32 → Int32 → Int32 → Int32 → Int32 → Mm → Option (Int32 × Mm)
  | 0, _, _, _, _, _, _ => none
  | n + 1, v1, v2, v3, v4, v5, μ =>
    if ((μ.1 75 5) - (1 : Int32)) ≤ v5 then (
    some (v4, μ)) else (
    if ((v1 >>> (v5 &&& 31)) &&& (1 : Int32)) = (0 : Int32) then (
    bn (f_To_wayOver N v1 v2 v5 μ) (fun r4 μ3 => 
    if v3 ≤ r4 then (
    f_To_nextStop_B54 N (f_To_nextStop_L9 N n) v1 v2 v3 v4 v5 μ3) else (
    bn (f_To_wayOver N v1 v2 v5 μ3) (fun r7 μ6 => 
    f_To_nextStop_B54 N (f_To_nextStop_L9 N n) v1 v2 r7 v5 v5 μ6)))) else (
    f_To_nextStop_B54 N (f_To_nextStop_L9 N n) v1 v2 v3 v4 v5 μ))
def f_To_nextStop (N : Nat) (a1 : Int32) (a2 : Int32) (μ : Mm) : Option (Int32 × Mm) :=
  f_To_nextStop_L9 N N a1 a2 (1000000 : Int32) (0 : Int32) (0 : Int32) μ
def f_To_follow_L28 (N : Nat)   : Nat → Int32 → Int32 → Int32 → Mm → Option Mm
  | 0, _, _, _, _ => none
  | n + 1, v1, v2, v3, μ =>
    if (μ.1 75 5) ≤ v3 then (
    some μ) else (
    bn (f_To_nextStop N v1 v2 μ) (fun r8 μ7 => 
    let x9 := (v1 ||| ((1 : Int32) <<< (r8 &&& 31)))
    let x10 := (r8 + (1 : Int32))
    if ixb x10 10 = true then (
    let x11 := (μ7.1 76 (x10).toNatClampNeg)
    if ixb v3 10 = true then (
    let μ12 := sI μ7 77 (v3).toNatClampNeg x11
    let x13 := (v3 + (1 : Int32))
    (f_To_follow_L28 N n) x9 x10 x13 μ12) else none) else none))
def f_To_follow (N : Nat)  (μ : Mm) : Option Mm :=
  bn (f_To_bestBeyond N ((0 : Int32)) ((0 : Int32)) μ) (fun r2 μ1 => 
  let μ3 := sI μ1 75 0 r2
  if ixb (0 : Int32) 10 = true then (
  let x4 := (μ3.1 76 ((0 : Int32)).toNatClampNeg)
  if ixb (0 : Int32) 10 = true then (
  let μ5 := sI μ3 77 ((0 : Int32)).toNatClampNeg x4
  f_To_follow_L28 N N (0 : Int32) (0 : Int32) (1 : Int32) μ5) else none) else none)
def f_To_gatherStops_B58 (N : Nat)  (k7 : Int32 → Mm → Option Mm) (v1 : Int32) (μ : Mm) : Option Mm :=
  let x10 := (v1 + (1 : Int32))
  k7 x10 μ
def f_To_gatherStops_L7 (N : Nat)   : Nat → Int32 → Mm → Option Mm
  | 0, _, _ => none
  | n + 1, v1, μ =>
    if (μ.1 6 1) ≤ v1 then (
    some μ) else (
    bn (f_Gr_worthOf N v1 μ) (fun r4 μ3 => 
    if r4 ≤ (0 : Int32) then (
    f_To_gatherStops_B58 N (f_To_gatherStops_L7 N n) v1 μ3) else (
    if (10 : Int32) ≤ (μ3.1 75 5) then (
    f_To_gatherStops_B58 N (f_To_gatherStops_L7 N n) v1 μ3) else (
    let x7 := (μ3.1 75 5)
    if ixb x7 10 = true then (
    let μ8 := sI μ3 76 (x7).toNatClampNeg v1
    let μ9 := sI μ8 75 5 ((μ8.1 75 5) + (1 : Int32))
    f_To_gatherStops_B58 N (f_To_gatherStops_L7 N n) v1 μ9) else none))))
def f_To_gatherStops (N : Nat)  (μ : Mm) : Option Mm :=
  let μ1 := sI μ 75 5 (0 : Int32)
  f_To_gatherStops_L7 N N (0 : Int32) μ1
def f_To_isParted_L2 (N : Nat)   : Nat → Int32 → Mm → Option (Int32 × Mm)
  | 0, _, _ => none
  | n + 1, v1, μ =>
    if (μ.1 75 5) ≤ v1 then (
    some ((0 : Int32), μ)) else (
    bn (f_To_way N ((0 : Int32)) v1 μ) (fun r3 μ2 => 
    if (0 : Int32) ≤ r3 then (
    let x5 := (v1 + (1 : Int32))
    (f_To_isParted_L2 N n) x5 μ2) else (
    some ((1 : Int32), μ2))))
def f_To_isParted (N : Nat)  (μ : Mm) : Option (Int32 × Mm) :=
  f_To_isParted_L2 N N (1 : Int32) μ
def f_To_workHomeward_B78 (N : Nat)  (k13 : Int32 → Int32 → Mm → Option Mm) (v1 : Int32) (v2 : Int32) (μ : Mm) : Option Mm :=
  let x12 := (v2 + (-1 : Int32))
  k13 v1 x12 μ
def f_To_workHomeward_B72 (N : Nat)  (k13 : Int32 → Int32 → Mm → Option Mm) (k19 : Int32 → Int32 → Int32 → Mm → Option Mm) (v1 : Int32) (v2 : Int32) (v3 : Int32) (μ : Mm) : Option Mm :=
  let x11 := (v3 + (1 : Int32))
  k19 v1 v2 x11 μ
def f_To_workHomeward_B71 (N : Nat)  (k13 : Int32 → Int32 → Mm → Option Mm) (k19 : Int32 → Int32 → Int32 → Mm → Option Mm) (v1 : Int32) (v2 : Int32) (v3 : Int32) (s1 : Int32) (s2 : Int32) (μ : Mm) : Option Mm :=
  if ixb s1 4608 = true then (
  let μ10 := sI μ 78 (s1).toNatClampNeg s2
  f_To_workHomeward_B72 N k13 k19 v1 v2 v3 μ10) else none
def f_To_workHomeward_L19 (N : Nat)  (k13 : Int32 → Int32 → Mm → Option Mm) : Nat → Int32 → Int32 → Int32 → Mm → Option Mm
  | 0, _, _, _, _ => none
  | n + 1, v1, v2, v3, μ =>
    if ((μ.1 75 5) - (1 : Int32)) ≤ v3 then (
    f_To_workHomeward_B78 N k13 v1 v2 μ) else (
    if ((v2 >>> (v3 &&& 31)) &&& (1 : Int32)) = (0 : Int32) then (
    f_To_workHomeward_B72 N k13 (f_To_workHomeward_L19 N k13 n) v1 v2 v3 μ) else (
    if v2 = v1 then (
    bn (f_To_way N ((v3 + (1 : Int32))) ((0 : Int32)) μ) (fun r7 μ6 => 
    f_To_workHomeward_B71 N k13 (f_To_workHomeward_L19 N k13 n) v1 v2 v3 ((v2 * (9 : Int32)) + v3) r7 μ6)) else (
    bn (f_To_bestBeyond N v2 ((v3 + (1 : Int32))) μ) (fun r9 μ8 => 
    f_To_workHomeward_B71 N k13 (f_To_workHomeward_L19 N k13 n) v1 v2 v3 ((v2 * (9 : Int32)) + v3) r9 μ8))))
def f_To_workHomeward_L13 (N : Nat)   : Nat → Int32 → Int32 → Mm → Option Mm
  | 0, _, _, _ => none
  | n + 1, v1, v2, μ =>
    if v2 ≤ (0 : Int32) then (
    some μ) else (
    f_To_workHomeward_L19 N (f_To_workHomeward_L13 N n) N v1 v2 (0 : Int32) μ)
def f_To_workHomeward (N : Nat)  (μ : Mm) : Option Mm :=
  let x1 := (((1 : Int32) <<< (((μ.1 75 5) - (1 : Int32)) &&& 31)) - (1 : Int32))
  f_To_workHomeward_L13 N N x1 x1 μ
def f_To_refresh (N : Nat)  (μ : Mm) : Option Mm :=
  if (μ.1 75 6) = (μ.1 6 4) then (
  some μ) else (
  let μ2 := sI μ 75 6 (μ.1 6 4)
  bv (f_Gr_measure N μ2) (fun μ3 => 
  bv (f_To_gatherStops N μ3) (fun μ4 => 
  if (2 : Int32) ≤ (μ4.1 75 5) then (
  bn (f_To_isParted N μ4) (fun r7 μ6 => 
  if r7 = (0 : Int32) then (
  bv (f_To_workHomeward N μ6) (fun μ9 => 
  bv (f_To_follow N μ9) (fun μ10 => 
  some μ10))) else (
  let μ11 := sI μ6 75 0 (-9 : Int32)
  some μ11))) else (
  let μ12 := sI μ4 75 0 (0 : Int32)
  if ixb (0 : Int32) 10 = true then (
  let x13 := (μ12.1 76 ((0 : Int32)).toNatClampNeg)
  if ixb (0 : Int32) 10 = true then (
  let μ14 := sI μ12 77 ((0 : Int32)).toNatClampNeg x13
  some μ14) else none) else none))))
def f_Wk_isOf_B25 (N : Nat) (j : Nat)   (μ : Mm) : Option (Int32 × Mm) :=
  some ((1 : Int32), μ)
def f_Wk_isOf (N : Nat) (j : Nat) (a1 : Int32) (μ : Mm) : Option (Int32 × Mm) :=
  if a1 = (0 : Int32) then (
  f_Wk_isOf_B25 N j μ) else (
  if (μ.1 (WK j) 0) = a1 then (
  f_Wk_isOf_B25 N j μ) else (
  if a1 = (1 : Int32) then (
  if (μ.1 (WK j) 0) = (2 : Int32) then (
  f_Wk_isOf_B25 N j μ) else (
  some ((0 : Int32), μ))) else (
  some ((0 : Int32), μ))))
def f_Wk_placeAt_B51 (N : Nat) (j : Nat)  (v2 : Int32) (v3 : Int32) (v4 : Int32) (s0 : Int32) (μ : Mm) : Option (Int32 × Mm) :=
  if v2 = (0 : Int32) then (
  if ixb v4 24 = true then (
  some ((μ.1 (WK j + 1) (v4).toNatClampNeg), μ)) else none) else if v2 = (1 : Int32) then (
  if s0 = (0 : Int32) then (
  bn (f_Wk_legBehind N j v4 μ) (fun r10 μ9 => 
  if ixb r10 24 = true then (
  some ((μ9.1 (WK j + 1) (r10).toNatClampNeg), μ9)) else none)) else (
  if ixb v4 24 = true then (
  some ((μ.1 (WK j + 1) (v4).toNatClampNeg), μ)) else none)) else (
  if s0 = (0 : Int32) then (
  if ixb v4 24 = true then (
  some ((v3 - (μ.1 (WK j + 4) (v4).toNatClampNeg)), μ)) else none) else (
  some ((0 : Int32), μ)))
def f_Wk_placeAt (N : Nat) (j : Nat) (a1 : Int32) (a2 : Int32) (μ : Mm) : Option (Int32 × Mm) :=
  if (μ.1 (WK j) 0) = (3 : Int32) then (
  if a2 = (2 : Int32) then (
  some ((0 : Int32), μ)) else (
  some ((μ.1 (WK j) 3), μ))) else (
  bn (f_Wk_phaseAt N j a1 μ) (fun r4 μ3 => 
  bn (f_Wk_legAt N j r4 μ3) (fun r6 μ5 => 
  if ixb r6 24 = true then (
  if (μ5.1 (WK j + 4) (r6).toNatClampNeg) < r4 then (
  f_Wk_placeAt_B51 N j a2 r4 r6 (0 : Int32) μ5) else (
  f_Wk_placeAt_B51 N j a2 r4 r6 (1 : Int32) μ5)) else none)))
def f_Wa_alwaysSeen_B52 (N : Nat)  (k4 : Int32 → Int32 → Int32 → Mm → Option (Int32 × Mm)) (v1 : Int32) (v3 : Int32) (s0 : Int32) (s1 : Int32) (μ : Mm) : Option (Int32 × Mm) :=
  let x7 := (s0 ||| s1)
  let x8 := (v3 + (1 : Int32))
  k4 v1 x7 x8 μ
def f_Wa_alwaysSeen_B51 (N : Nat)  (k4 : Int32 → Int32 → Int32 → Mm → Option (Int32 × Mm)) (v1 : Int32) (v3 : Int32) (s0 : Int32) (μ : Mm) : Option (Int32 × Mm) :=
  f_Wa_alwaysSeen_B52 N k4 v1 v3 s0 (0 : Int32) μ
def f_Wa_alwaysSeen_L4 (N : Nat)   : Nat → Int32 → Int32 → Int32 → Mm → Option (Int32 × Mm)
  | 0, _, _, _, _ => none
  | n + 1, v1, v2, v3, μ =>
    if (μ.1 11 1) ≤ v3 then (
    some (v2, μ)) else (
    bn (f_Cr_get N v3 μ) (fun r3 μ2 => 
    if r3 < 8 then (
    if ((v1 >>> (v3 &&& 31)) &&& (1 : Int32)) = (0 : Int32) then (
    f_Wa_alwaysSeen_B51 N (f_Wa_alwaysSeen_L4 N n) v1 v3 v2 μ2) else (
    if (μ2.1 (WK r3) 0) = (3 : Int32) then (
    f_Wa_alwaysSeen_B52 N (f_Wa_alwaysSeen_L4 N n) v1 v3 v2 (μ2.1 (WK r3) 13) μ2) else (
    f_Wa_alwaysSeen_B51 N (f_Wa_alwaysSeen_L4 N n) v1 v3 v2 μ2))) else none))
def f_Wa_alwaysSeen (N : Nat) (a1 : Int32) (μ : Mm) : Option (Int32 × Mm) :=
  f_Wa_alwaysSeen_L4 N N a1 (0 : Int32) (0 : Int32) μ
def f_Wa_clear_B75 (N : Nat)  (k2 : Int32 → Mm → Option Mm) (v1 : Int32) (s1 : Int32) (s2 : Int32) (μ : Mm) : Option Mm :=
  if ixb s1 16 = true then (
  let μ8 := sI μ 65 (s1).toNatClampNeg s2
  if ixb v1 16 = true then (
  let μ9 := sI μ8 66 (v1).toNatClampNeg (-1 : Int32)
  if ixb v1 16 = true then (
  let μ10 := sI μ9 67 (v1).toNatClampNeg (-1 : Int32)
  let x11 := (v1 + (1 : Int32))
  k2 x11 μ10) else none) else none) else none
def f_Wa_clear_B57 (N : Nat)  (k2 : Int32 → Mm → Option Mm) (v1 : Int32) (v2 : Int32) (s1 : Int32) (s2 : Int32) (μ : Mm) : Option Mm :=
  if ixb s1 16 = true then (
  let μ6 := sI μ 64 (s1).toNatClampNeg s2
  if v2 = (0 : Int32) then (
  f_Wa_clear_B75 N k2 v1 v1 (0 : Int32) μ6) else (
  f_Wa_clear_B75 N k2 v1 v1 (μ6.1 61 0) μ6)) else none
def f_Wa_clear_B24 (N : Nat)  (k2 : Int32 → Mm → Option Mm) (v1 : Int32) (s0 : Int32) (μ : Mm) : Option Mm :=
  if ixb v1 16 = true then (
  let μ3 := sI μ 62 (v1).toNatClampNeg (0 : Int32)
  if ixb v1 16 = true then (
  let μ4 := sI μ3 63 (v1).toNatClampNeg (-9 : Int32)
  if s0 = (0 : Int32) then (
  f_Wa_clear_B57 N k2 v1 s0 v1 (0 : Int32) μ4) else (
  f_Wa_clear_B57 N k2 v1 s0 v1 (μ4.1 61 0) μ4)) else none) else none
def f_Wa_clear_L2 (N : Nat)   : Nat → Int32 → Mm → Option Mm
  | 0, _, _ => none
  | n + 1, v1, μ =>
    if (16 : Int32) ≤ v1 then (
    some μ) else (
    if (((μ.1 61 14) >>> (v1 &&& 31)) &&& (1 : Int32)) = (0 : Int32) then (
    f_Wa_clear_B24 N (f_Wa_clear_L2 N n) v1 (0 : Int32) μ) else (
    f_Wa_clear_B24 N (f_Wa_clear_L2 N n) v1 (1 : Int32) μ))
def f_Wa_clear (N : Nat)  (μ : Mm) : Option Mm :=
  f_Wa_clear_L2 N N (0 : Int32) μ
def f_Wa_noteGap_B69 (N : Nat)   (v1 : Int32) (v2 : Int32) (v3 : Int32) (μ : Mm) : Option Mm :=
  if ixb v1 16 = true then (
  let μ9 := sI μ 62 (v1).toNatClampNeg v3
  if ixb v1 16 = true then (
  let μ10 := sI μ9 63 (v1).toNatClampNeg v2
  some μ10) else none) else none
def f_Wa_noteGap_B37 (N : Nat)   (v1 : Int32) (v2 : Int32) (v3 : Int32) (s1 : Int32) (s2 : Int32) (s3 : Int32) (μ : Mm) : Option Mm :=
  let x4 := (s2 + s3)
  if ixb s1 16 = true then (
  let μ5 := sI μ 65 (s1).toNatClampNeg x4
  if ixb v1 16 = true then (
  if (μ5.1 62 (v1).toNatClampNeg) < v3 then (
  f_Wa_noteGap_B69 N v1 v2 v3 μ5) else (
  if ixb v1 16 = true then (
  if v3 = (μ5.1 62 (v1).toNatClampNeg) then (
  if ixb v1 16 = true then (
  if (μ5.1 63 (v1).toNatClampNeg) ≤ v2 then (
  some μ5) else (
  f_Wa_noteGap_B69 N v1 v2 v3 μ5)) else none) else (
  some μ5)) else none)) else none) else none
def f_Wa_noteGap (N : Nat) (a1 : Int32) (a2 : Int32) (a3 : Int32) (μ : Mm) : Option Mm :=
  if ixb a1 16 = true then (
  let x1 := ((μ.1 64 (a1).toNatClampNeg) + a3)
  if ixb a1 16 = true then (
  let μ2 := sI μ 64 (a1).toNatClampNeg x1
  if ixb a1 16 = true then (
  if (μ2.1 61 15) ≤ a3 then (
  f_Wa_noteGap_B37 N a1 a2 a3 a1 (μ2.1 65 (a1).toNatClampNeg) ((a3 - (μ2.1 61 15)) + (1 : Int32)) μ2) else (
  f_Wa_noteGap_B37 N a1 a2 a3 a1 (μ2.1 65 (a1).toNatClampNeg) (0 : Int32) μ2)) else none) else none) else none
def f_Wa_closeRound_B73 (N : Nat)  (k2 : Int32 → Mm → Option Mm) (v1 : Int32) (μ : Mm) : Option Mm :=
  let x7 := (v1 + (1 : Int32))
  k2 x7 μ
def f_Wa_closeRound_B69 (N : Nat)  (k2 : Int32 → Mm → Option Mm) (v1 : Int32) (v2 : Int32) (s1 : Int32) (s2 : Int32) (μ : Mm) : Option Mm :=
  bv (f_Wa_noteGap N s1 s2 v2 μ) (fun μ6 => 
  f_Wa_closeRound_B73 N k2 v1 μ6)
def f_Wa_closeRound_L2 (N : Nat)   : Nat → Int32 → Mm → Option Mm
  | 0, _, _ => none
  | n + 1, v1, μ =>
    if (16 : Int32) ≤ v1 then (
    some μ) else (
    if ixb v1 16 = true then (
    if (μ.1 67 (v1).toNatClampNeg) = (-1 : Int32) then (
    f_Wa_closeRound_B73 N (f_Wa_closeRound_L2 N n) v1 μ) else (
    if ixb v1 16 = true then (
    if ixb v1 16 = true then (
    let x3 := (((μ.1 67 (v1).toNatClampNeg) + (μ.1 61 0)) - (μ.1 66 (v1).toNatClampNeg))
    if x3 ≤ (0 : Int32) then (
    f_Wa_closeRound_B73 N (f_Wa_closeRound_L2 N n) v1 μ) else (
    if ixb v1 16 = true then (
    if (μ.1 61 0) ≤ (μ.1 66 (v1).toNatClampNeg) then (
    f_Wa_closeRound_B69 N (f_Wa_closeRound_L2 N n) v1 x3 v1 (0 : Int32) μ) else (
    if ixb v1 16 = true then (
    f_Wa_closeRound_B69 N (f_Wa_closeRound_L2 N n) v1 x3 v1 (μ.1 66 (v1).toNatClampNeg) μ) else none)) else none)) else none) else none)) else none)
def f_Wa_closeRound (N : Nat)  (μ : Mm) : Option Mm :=
  f_Wa_closeRound_L2 N N (0 : Int32) μ
def f_Wa_coverAhead_B32 (N : Nat)  (k2 : Int32 → Int32 → Int32 → Mm → Option Mm) (v1 : Int32) (v2 : Int32) (v3 : Int32) (μ : Mm) : Option Mm :=
  let x6 := (v3 + (1 : Int32))
  k2 v1 v2 x6 μ
def f_Wa_coverAhead_L2 (N : Nat)   : Nat → Int32 → Int32 → Int32 → Mm → Option Mm
  | 0, _, _, _, _ => none
  | n + 1, v1, v2, v3, μ =>
    if (16 : Int32) ≤ v3 then (
    some μ) else (
    if ((v1 >>> (v3 &&& 31)) &&& (1 : Int32)) = (0 : Int32) then (
    f_Wa_coverAhead_B32 N (f_Wa_coverAhead_L2 N n) v1 v2 v3 μ) else (
    if ixb v3 16 = true then (
    bn (f_Jm_max_7cf53 N ((μ.1 66 (v3).toNatClampNeg)) v2 μ) (fun r4 μ3 => 
    if ixb v3 16 = true then (
    let μ5 := sI μ3 66 (v3).toNatClampNeg r4
    f_Wa_coverAhead_B32 N (f_Wa_coverAhead_L2 N n) v1 v2 v3 μ5) else none)) else none))
def f_Wa_coverAhead (N : Nat) (a1 : Int32) (a2 : Int32) (μ : Mm) : Option Mm :=
  f_Wa_coverAhead_L2 N N a1 a2 (0 : Int32) μ
def f_Wa_setOut (N : Nat) (a1 : Int32) (a2 : Int32) (a3 : Nat) (μ : Mm) : Option Mm :=
  bn (f_Wk_phaseAt N a3 ((0 : Int32)) μ) (fun r2 μ1 => 
  bn (f_Wk_legAt N a3 r2 μ1) (fun r4 μ3 => 
  if ixb a1 8 = true then (
  let μ5 := sI μ3 68 (a1).toNatClampNeg a2
  if ixb r4 25 = true then (
  if (μ5.1 (WK a3 + 3) (r4).toNatClampNeg) = r2 then (
  if ixb a1 8 = true then (
  let μ7 := sI μ5 69 (a1).toNatClampNeg r4
  if ixb a1 8 = true then (
  let μ8 := sI μ7 70 (a1).toNatClampNeg (0 : Int32)
  some μ8) else none) else none) else (
  bn (f_Wk_legBehind N a3 r4 μ5) (fun r10 μ9 => 
  if ixb a1 8 = true then (
  let μ11 := sI μ9 69 (a1).toNatClampNeg r10
  let x12 := (r4 + (1 : Int32))
  if ixb x12 25 = true then (
  let x13 := ((μ11.1 (WK a3 + 3) (x12).toNatClampNeg) - r2)
  if ixb a1 8 = true then (
  let μ14 := sI μ11 70 (a1).toNatClampNeg x13
  if ixb r4 24 = true then (
  if (μ14.1 (WK a3 + 4) (r4).toNatClampNeg) < r2 then (
  some μ14) else (
  if ixb r4 24 = true then (
  if ixb r4 24 = true then (
  bv (f_Wa_coverAhead N (((μ14.1 (WK a3 + 5) (r4).toNatClampNeg) &&& (μ14.1 61 13))) ((((μ14.1 (WK a3 + 4) (r4).toNatClampNeg) - r2) + (1 : Int32))) μ14) (fun μ16 => 
  some μ16)) else none) else none)) else none) else none) else none) else none))) else none) else none))
def f_Wa_enlist_B75 (N : Nat)  (k7 : Int32 → Int32 → Mm → Option Mm) (v1 : Int32) (v2 : Int32) (μ : Mm) : Option Mm :=
  let x11 := (v2 + (1 : Int32))
  k7 v1 x11 μ
def f_Wa_enlist_L7 (N : Nat)   : Nat → Int32 → Int32 → Mm → Option Mm
  | 0, _, _, _ => none
  | n + 1, v1, v2, μ =>
    if (μ.1 11 1) ≤ v2 then (
    some μ) else (
    bn (f_Cr_get N v2 μ) (fun r4 μ3 => 
    if r4 < 8 then (
    if ((v1 >>> (v2 &&& 31)) &&& (1 : Int32)) = (0 : Int32) then (
    f_Wa_enlist_B75 N (f_Wa_enlist_L7 N n) v1 v2 μ3) else (
    if (μ3.1 (WK r4) 0) = (3 : Int32) then (
    f_Wa_enlist_B75 N (f_Wa_enlist_L7 N n) v1 v2 μ3) else (
    if ((μ3.1 (WK r4) 13) &&& (μ3.1 61 13)) = (0 : Int32) then (
    f_Wa_enlist_B75 N (f_Wa_enlist_L7 N n) v1 v2 μ3) else (
    bv (f_Wa_setOut N ((μ3.1 61 11)) v2 r4 μ3) (fun μ9 => 
    let μ10 := sI μ9 61 11 ((μ9.1 61 11) + (1 : Int32))
    f_Wa_enlist_B75 N (f_Wa_enlist_L7 N n) v1 v2 μ10))))) else none))
def f_Wa_enlist (N : Nat) (a1 : Int32) (μ : Mm) : Option Mm :=
  let μ1 := sI μ 61 11 (0 : Int32)
  f_Wa_enlist_L7 N N a1 (0 : Int32) μ1
def f_Wa_earliest_B29 (N : Nat)  (k4 : Int32 → Int32 → Mm → Option (Int32 × Mm)) (v1 : Int32) (v2 : Int32) (μ : Mm) : Option (Int32 × Mm) :=
  let x3 := (v2 + (1 : Int32))
  k4 v1 x3 μ
def f_Wa_earliest_L4 (N : Nat)   : Nat → Int32 → Int32 → Mm → Option (Int32 × Mm)
  | 0, _, _, _ => none
  | n + 1, v1, v2, μ =>
    if (μ.1 61 11) ≤ v2 then (
    some (v1, μ)) else (
    if ixb v2 8 = true then (
    if ixb v1 8 = true then (
    if (μ.1 70 (v1).toNatClampNeg) ≤ (μ.1 70 (v2).toNatClampNeg) then (
    f_Wa_earliest_B29 N (f_Wa_earliest_L4 N n) v1 v2 μ) else (
    f_Wa_earliest_B29 N (f_Wa_earliest_L4 N n) v2 v2 μ)) else none) else none)
def f_Wa_earliest (N : Nat)  (μ : Mm) : Option (Int32 × Mm) :=
  f_Wa_earliest_L4 N N (0 : Int32) (1 : Int32) μ
def f_Wa_seeOne_B49 (N : Nat)   (v1 : Int32) (v3 : Int32) (μ : Mm) : Option Mm :=
  if ixb v1 16 = true then (
  bn (f_Jm_max_7cf53 N ((μ.1 66 (v1).toNatClampNeg)) v3 μ) (fun r6 μ5 => 
  if ixb v1 16 = true then (
  let μ7 := sI μ5 66 (v1).toNatClampNeg r6
  some μ7) else none)) else none
def f_Wa_seeOne (N : Nat) (a1 : Int32) (a2 : Int32) (a3 : Int32) (μ : Mm) : Option Mm :=
  if ixb a1 16 = true then (
  if (μ.1 66 (a1).toNatClampNeg) = (-1 : Int32) then (
  if ixb a1 16 = true then (
  let μ2 := sI μ 67 (a1).toNatClampNeg a2
  f_Wa_seeOne_B49 N a1 a3 μ2) else none) else (
  if ixb a1 16 = true then (
  if a2 ≤ (μ.1 66 (a1).toNatClampNeg) then (
  f_Wa_seeOne_B49 N a1 a3 μ) else (
  if ixb a1 16 = true then (
  if ixb a1 16 = true then (
  bv (f_Wa_noteGap N a1 ((μ.1 66 (a1).toNatClampNeg)) ((a2 - (μ.1 66 (a1).toNatClampNeg))) μ) (fun μ4 => 
  f_Wa_seeOne_B49 N a1 a3 μ4)) else none) else none)) else none)) else none
def f_Wa_see_B33 (N : Nat)  (k6 : Int32 → Int32 → Int32 → Int32 → Mm → Option Mm) (v2 : Int32) (v3 : Int32) (v4 : Int32) (v5 : Int32) (μ : Mm) : Option Mm :=
  let x5 := (v4 >>> ((1 : Int32) &&& 31))
  let x6 := (v5 + (1 : Int32))
  k6 v2 v3 x5 x6 μ
def f_Wa_see_L6 (N : Nat)   : Nat → Int32 → Int32 → Int32 → Int32 → Mm → Option Mm
  | 0, _, _, _, _, _ => none
  | n + 1, v2, v3, v4, v5, μ =>
    if (16 : Int32) ≤ v5 then (
    some μ) else (
    if v4 = (0 : Int32) then (
    some μ) else (
    if (v4 &&& (1 : Int32)) = (0 : Int32) then (
    f_Wa_see_B33 N (f_Wa_see_L6 N n) v2 v3 v4 v5 μ) else (
    bv (f_Wa_seeOne N v5 v2 v3 μ) (fun μ4 => 
    f_Wa_see_B33 N (f_Wa_see_L6 N n) v2 v3 v4 v5 μ4))))
def f_Wa_see (N : Nat) (a1 : Int32) (a2 : Int32) (a3 : Int32) (μ : Mm) : Option Mm :=
  f_Wa_see_L6 N N a2 a3 a1 (0 : Int32) μ
def f_Wa_sweep_L2 (N : Nat)   : Nat → Int32 → Mm → Option Mm
  | 0, _, _ => none
  | n + 1, v1, μ =>
    if (11528 : Int32) ≤ v1 then (
    some μ) else (
    if (μ.1 61 11) ≤ (0 : Int32) then (
    some μ) else (
    bn (f_Wa_earliest N μ) (fun r4 μ3 => 
    if ixb r4 8 = true then (
    let x5 := (μ3.1 70 (r4).toNatClampNeg)
    if x5 < (μ3.1 61 0) then (
    if ixb r4 8 = true then (
    bn (f_Cr_get N ((μ3.1 68 (r4).toNatClampNeg)) μ3) (fun r8 μ7 => 
    if r8 < 8 then (
    if ixb r4 8 = true then (
    let x10 := (μ7.1 69 (r4).toNatClampNeg)
    if ixb x10 24 = true then (
    if ixb x10 24 = true then (
    bv (f_Wa_see N (((μ7.1 (WK r8 + 5) (x10).toNatClampNeg) &&& (μ7.1 61 13))) x5 (((x5 + (μ7.1 (WK r8 + 2) (x10).toNatClampNeg)) + (1 : Int32))) μ7) (fun μ11 => 
    let x12 := (x10 + (1 : Int32))
    if ixb x12 25 = true then (
    if ixb x10 25 = true then (
    let x13 := ((x5 + (μ11.1 (WK r8 + 3) (x12).toNatClampNeg)) - (μ11.1 (WK r8 + 3) (x10).toNatClampNeg))
    if ixb r4 8 = true then (
    let μ14 := sI μ11 70 (r4).toNatClampNeg x13
    bn (f_Wk_legBehind N r8 x10 μ14) (fun r16 μ15 => 
    if ixb r4 8 = true then (
    let μ17 := sI μ15 69 (r4).toNatClampNeg r16
    let x18 := (v1 + (1 : Int32))
    (f_Wa_sweep_L2 N n) x18 μ17) else none)) else none) else none) else none)) else none) else none) else none) else none)) else none) else (
    some μ3)) else none)))
def f_Wa_sweep (N : Nat)  (μ : Mm) : Option Mm :=
  f_Wa_sweep_L2 N N (0 : Int32) μ
def f_Wa_look (N : Nat) (a1 : Int32) (a2 : Int32) (a3 : Int32) (μ : Mm) : Option Mm :=
  bn (f_Cr_jointOf N a1 μ) (fun r2 μ1 => 
  bn (f_Jm_max_7cf53 N ((1 : Int32)) r2 μ1) (fun r4 μ3 => 
  let μ5 := sI μ3 61 0 r4
  let μ6 := sI μ5 61 15 a3
  let μ7 := sI μ6 61 12 a2
  bn (f_Cr_everSeen N a1 μ7) (fun r9 μ8 => 
  let μ10 := sI μ8 61 14 (a2 &&& (r9 ^^^ (-1 : Int32)))
  bn (f_Wa_alwaysSeen N a1 μ10) (fun r12 μ11 => 
  let μ13 := sI μ11 61 13 ((a2 &&& ((μ10.1 61 14) ^^^ (-1 : Int32))) &&& (r12 ^^^ (-1 : Int32)))
  bv (f_Wa_clear N μ13) (fun μ14 => 
  bv (f_Wa_enlist N a1 μ14) (fun μ15 => 
  bv (f_Wa_sweep N μ15) (fun μ16 => 
  bv (f_Wa_closeRound N μ16) (fun μ17 => 
  some μ17))))))))
def f_Wa_idleOf (N : Nat) (a1 : Int32) (μ : Mm) : Option (Int32 × Mm) :=
  if (((μ.1 61 14) >>> (a1 &&& 31)) &&& (1 : Int32)) = (0 : Int32) then (
  if ixb a1 16 = true then (
  some ((μ.1 62 (a1).toNatClampNeg), μ)) else none) else (
  some ((-9 : Int32), μ))
def f_Wa_idleStartOf (N : Nat) (a1 : Int32) (μ : Mm) : Option (Int32 × Mm) :=
  if ixb a1 16 = true then (
  some ((μ.1 63 (a1).toNatClampNeg), μ)) else none
def f_Wa_unseenOf (N : Nat) (a1 : Int32) (μ : Mm) : Option (Int32 × Mm) :=
  if ixb a1 16 = true then (
  some ((μ.1 64 (a1).toNatClampNeg), μ)) else none
def f_Wa_openingsOf (N : Nat) (a1 : Int32) (μ : Mm) : Option (Int32 × Mm) :=
  if ixb a1 16 = true then (
  some ((μ.1 65 (a1).toNatClampNeg), μ)) else none
def f_Wa_loadOf (N : Nat) (a1 : Int32) (μ : Mm) : Option (Int32 × Mm) :=
  bn (f_Wa_idleOf N a1 μ) (fun r2 μ1 => 
  if (0 : Int32) ≤ r2 then (
  bn (f_Gr_worthOf N a1 μ1) (fun r5 μ4 => 
  some ((r2 * r5), μ4))) else (
  some ((-9 : Int32), μ1)))
def f_Wa_lureOf (N : Nat) (a1 : Int32) (μ : Mm) : Option (Int32 × Mm) :=
  if ixb a1 16 = true then (
  bn (f_Gr_worthOf N a1 μ) (fun r2 μ1 => 
  some (((μ.1 65 (a1).toNatClampNeg) * r2), μ1))) else none
def f_Ji_numberOfTrailingZeros_0f7a4_B74 (N : Nat)   (v0 : Int32) (v1 : Int32) (μ : Mm) : Option (Int32 × Mm) :=
  some ((v1 + ((v0).toUInt32 >>> (((1 : Int32)).toUInt32 &&& Int32.toUInt32 31)).toInt32), μ)
def f_Ji_numberOfTrailingZeros_0f7a4_B62 (N : Nat)   (v0 : Int32) (v1 : Int32) (μ : Mm) : Option (Int32 × Mm) :=
  if v0 ≤ (4 : Int32) then (
  f_Ji_numberOfTrailingZeros_0f7a4_B74 N v0 v1 μ) else (
  let x13 := (v1 + (2 : Int32))
  let x14 := ((v0).toUInt32 >>> (((2 : Int32)).toUInt32 &&& Int32.toUInt32 31)).toInt32
  f_Ji_numberOfTrailingZeros_0f7a4_B74 N x14 x13 μ)
def f_Ji_numberOfTrailingZeros_0f7a4_B49 (N : Nat)   (v0 : Int32) (v1 : Int32) (μ : Mm) : Option (Int32 × Mm) :=
  if v0 ≤ (16 : Int32) then (
  f_Ji_numberOfTrailingZeros_0f7a4_B62 N v0 v1 μ) else (
  let x10 := (v1 + (4 : Int32))
  let x11 := ((v0).toUInt32 >>> (((4 : Int32)).toUInt32 &&& Int32.toUInt32 31)).toInt32
  f_Ji_numberOfTrailingZeros_0f7a4_B62 N x11 x10 μ)
def f_Ji_numberOfTrailingZeros_0f7a4_B34 (N : Nat)   (v0 : Int32) (v1 : Int32) (μ : Mm) : Option (Int32 × Mm) :=
  if v0 ≤ (256 : Int32) then (
  f_Ji_numberOfTrailingZeros_0f7a4_B49 N v0 v1 μ) else (
  let x7 := (v1 + (8 : Int32))
  let x8 := ((v0).toUInt32 >>> (((8 : Int32)).toUInt32 &&& Int32.toUInt32 31)).toInt32
  f_Ji_numberOfTrailingZeros_0f7a4_B49 N x8 x7 μ)
def f_Ji_numberOfTrailingZeros_0f7a4 (N : Nat) (a1 : Int32) (μ : Mm) : Option (Int32 × Mm) :=
  let x1 := ((a1 ^^^ (-1 : Int32)) &&& (a1 - (1 : Int32)))
  if (0 : Int32) < x1 then (
  if x1 ≤ (65536 : Int32) then (
  f_Ji_numberOfTrailingZeros_0f7a4_B34 N x1 (1 : Int32) μ) else (
  let x4 := ((1 : Int32) + (16 : Int32))
  let x5 := ((x1).toUInt32 >>> (((16 : Int32)).toUInt32 &&& Int32.toUInt32 31)).toInt32
  f_Ji_numberOfTrailingZeros_0f7a4_B34 N x5 x4 μ)) else (
  some ((x1 &&& (32 : Int32)), μ))
def f_Wa_worstPost_B56 (N : Nat)  (k22 : Int32 → Int32 → Int32 → Mm → Option (Int32 × Mm)) (v1 : Int32) (v2 : Int32) (v3 : Int32) (μ : Mm) : Option (Int32 × Mm) :=
  let x11 := (v3 + (1 : Int32))
  k22 v1 v2 x11 μ
def f_Wa_worstPost_L22 (N : Nat)   : Nat → Int32 → Int32 → Int32 → Mm → Option (Int32 × Mm)
  | 0, _, _, _, _ => none
  | n + 1, v1, v2, v3, μ =>
    if (16 : Int32) ≤ v3 then (
    some (v1, μ)) else (
    if (((μ.1 61 12) >>> (v3 &&& 31)) &&& (1 : Int32)) = (0 : Int32) then (
    f_Wa_worstPost_B56 N (f_Wa_worstPost_L22 N n) v1 v2 v3 μ) else (
    bn (f_Wa_loadOf N v3 μ) (fun r7 μ6 => 
    if r7 ≤ v2 then (
    f_Wa_worstPost_B56 N (f_Wa_worstPost_L22 N n) v1 v2 v3 μ6) else (
    bn (f_Wa_loadOf N v3 μ6) (fun r10 μ9 => 
    f_Wa_worstPost_B56 N (f_Wa_worstPost_L22 N n) v3 r10 v3 μ9)))))
def f_Wa_worstPost (N : Nat)  (μ : Mm) : Option (Int32 × Mm) :=
  if (μ.1 61 14) = (0 : Int32) then (
  f_Wa_worstPost_L22 N N (-9 : Int32) (-1 : Int32) (0 : Int32) μ) else (
  bn (f_Ji_numberOfTrailingZeros_0f7a4 N ((μ.1 61 14)) μ) (fun r3 μ2 => 
  some (r3, μ2)))
def f_Wa_bestForThief_B41 (N : Nat)  (k7 : Int32 → Int32 → Int32 → Mm → Option (Int32 × Mm)) (v1 : Int32) (v2 : Int32) (v3 : Int32) (μ : Mm) : Option (Int32 × Mm) :=
  let x8 := (v3 + (1 : Int32))
  k7 v1 v2 x8 μ
def f_Wa_bestForThief_L7 (N : Nat)   : Nat → Int32 → Int32 → Int32 → Mm → Option (Int32 × Mm)
  | 0, _, _, _, _ => none
  | n + 1, v1, v2, v3, μ =>
    if (16 : Int32) ≤ v3 then (
    some (v1, μ)) else (
    if (((μ.1 61 12) >>> (v3 &&& 31)) &&& (1 : Int32)) = (0 : Int32) then (
    f_Wa_bestForThief_B41 N (f_Wa_bestForThief_L7 N n) v1 v2 v3 μ) else (
    bn (f_Wa_lureOf N v3 μ) (fun r4 μ3 => 
    if r4 ≤ v2 then (
    f_Wa_bestForThief_B41 N (f_Wa_bestForThief_L7 N n) v1 v2 v3 μ3) else (
    bn (f_Wa_lureOf N v3 μ3) (fun r7 μ6 => 
    f_Wa_bestForThief_B41 N (f_Wa_bestForThief_L7 N n) v3 r7 v3 μ6)))))
def f_Wa_bestForThief (N : Nat)  (μ : Mm) : Option (Int32 × Mm) :=
  f_Wa_bestForThief_L7 N N (-9 : Int32) (0 : Int32) (0 : Int32) μ
def f_Wa_longestIdle_B42 (N : Nat)  (k14 : Int32 → Int32 → Mm → Option (Int32 × Mm)) (v2 : Int32) (s0 : Int32) (s1 : Int32) (μ : Mm) : Option (Int32 × Mm) :=
  bn (f_Jm_max_7cf53 N s0 s1 μ) (fun r5 μ4 => 
  let x6 := (v2 + (1 : Int32))
  k14 r5 x6 μ4)
def f_Wa_longestIdle_L14 (N : Nat)   : Nat → Int32 → Int32 → Mm → Option (Int32 × Mm)
  | 0, _, _, _ => none
  | n + 1, v1, v2, μ =>
    if (16 : Int32) ≤ v2 then (
    some (v1, μ)) else (
    if (((μ.1 61 12) >>> (v2 &&& 31)) &&& (1 : Int32)) = (0 : Int32) then (
    f_Wa_longestIdle_B42 N (f_Wa_longestIdle_L14 N n) v2 v1 (0 : Int32) μ) else (
    if ixb v2 16 = true then (
    f_Wa_longestIdle_B42 N (f_Wa_longestIdle_L14 N n) v2 v1 (μ.1 62 (v2).toNatClampNeg) μ) else none))
def f_Wa_longestIdle (N : Nat)  (μ : Mm) : Option (Int32 × Mm) :=
  if (μ.1 61 14) = (0 : Int32) then (
  f_Wa_longestIdle_L14 N N (0 : Int32) (0 : Int32) μ) else (
  some ((-9 : Int32), μ))
def f_W_isRow (N : Nat) (a1 : Int32) (μ : Mm) : Option (Int32 × Mm) :=
  if a1 < (0 : Int32) then (
  some ((0 : Int32), μ)) else (
  if (8 : Int32) ≤ a1 then (
  some ((0 : Int32), μ)) else (
  some ((1 : Int32), μ)))
def f_W_row (N : Nat) (a1 : Int32) (a2 : Int32) (μ : Mm) : Option (Int32 × Mm) :=
  bn (f_W_isRow N a1 μ) (fun r2 μ1 => 
  if r2 = (0 : Int32) then (
  some ((-1 : Int32), μ1)) else (
  if a2 ≤ (40 : Int32) then (
  if (0 : Int32) ≤ a2 then (
  bv (f_Sf_put N a1 a2 μ1) (fun μ6 => 
  some (a2, μ6))) else (
  bn (f_Ta_found N ((5 : Int32)) μ1) (fun r8 μ7 => 
  some (r8, μ7)))) else (
  some ((-1 : Int32), μ1))))
def f_W_lay_B45 (N : Nat)    (μ : Mm) : Option (Int32 × Mm) :=
  bn (f_Ta_found N ((2 : Int32)) μ) (fun r17 μ16 => 
  some (r17, μ16))
def f_W_lay (N : Nat) (a1 : Int32) (a2 : Int32) (a3 : Int32) (μ : Mm) : Option (Int32 × Mm) :=
  bn (f_W_isRow N a1 μ) (fun r2 μ1 => 
  if r2 = (0 : Int32) then (
  some ((-1 : Int32), μ1)) else (
  bn (f_Sf_lacks N a1 μ1) (fun r5 μ4 => 
  if r5 = (0 : Int32) then (
  if a2 < (0 : Int32) then (
  f_W_lay_B45 N μ4) else (
  bn (f_Sf_sizeOf N a1 μ4) (fun r9 μ8 => 
  if a2 < r9 then (
  bn (f_Sf_byteAt N a1 a2 μ8) (fun r12 μ11 => 
  bv (f_Sf_write N a1 a2 a3 μ11) (fun μ13 => 
  some ((r12 + (1000 : Int32)), μ13)))) else (
  f_W_lay_B45 N μ8)))) else (
  bn (f_Ta_found N ((1 : Int32)) μ4) (fun r15 μ14 => 
  some (r15, μ14))))))
def f_W_tear (N : Nat) (a1 : Int32) (μ : Mm) : Option (Int32 × Mm) :=
  bn (f_W_isRow N a1 μ) (fun r2 μ1 => 
  if r2 = (0 : Int32) then (
  some ((-1 : Int32), μ1)) else (
  bn (f_Sf_lacks N a1 μ1) (fun r5 μ4 => 
  if r5 = (0 : Int32) then (
  bv (f_Sf_remove N a1 μ4) (fun μ7 => 
  some ((1 : Int32), μ7))) else (
  bn (f_Ta_found N ((1 : Int32)) μ4) (fun r9 μ8 => 
  some (r9, μ8))))))
def f_W_copy_B76 (N : Nat)    (μ : Mm) : Option (Int32 × Mm) :=
  bn (f_Ta_found N ((2 : Int32)) μ) (fun r23 μ22 => 
  some (r23, μ22))
def f_W_copy_B38 (N : Nat)    (μ : Mm) : Option (Int32 × Mm) :=
  bn (f_Ta_found N ((1 : Int32)) μ) (fun r21 μ20 => 
  some (r21, μ20))
def f_W_copy (N : Nat) (a1 : Int32) (a2 : Int32) (a3 : Int32) (a4 : Int32) (a5 : Int32) (μ : Mm) : Option (Int32 × Mm) :=
  bn (f_W_isRow N a1 μ) (fun r2 μ1 => 
  if r2 = (0 : Int32) then (
  some ((-1 : Int32), μ1)) else (
  bn (f_W_isRow N a3 μ1) (fun r5 μ4 => 
  if r5 = (0 : Int32) then (
  some ((-1 : Int32), μ4)) else (
  bn (f_Sf_lacks N a1 μ4) (fun r8 μ7 => 
  if r8 = (0 : Int32) then (
  bn (f_Sf_lacks N a3 μ7) (fun r11 μ10 => 
  if r11 = (0 : Int32) then (
  bn (f_Sf_holds N a1 a2 a5 μ10) (fun r14 μ13 => 
  if r14 = (0 : Int32) then (
  f_W_copy_B76 N μ13) else (
  bn (f_Sf_holds N a3 a4 a5 μ13) (fun r17 μ16 => 
  if r17 = (0 : Int32) then (
  f_W_copy_B76 N μ16) else (
  bv (f_Sf_move N a1 a2 a3 a4 a5 μ16) (fun μ19 => 
  some ((1 : Int32), μ19))))))) else (
  f_W_copy_B38 N μ10))) else (
  f_W_copy_B38 N μ7))))))
def f_W_mean (N : Nat) (a1 : Int32) (μ : Mm) : Option (Int32 × Mm) :=
  bn (f_W_isRow N a1 μ) (fun r2 μ1 => 
  if r2 = (0 : Int32) then (
  some ((-1 : Int32), μ1)) else (
  bn (f_Sf_lacks N a1 μ1) (fun r5 μ4 => 
  if r5 = (0 : Int32) then (
  bn (f_Sf_sizeOf N a1 μ4) (fun r8 μ7 => 
  if (1 : Int32) ≤ r8 then (
  bn (f_Sf_sumOf N a1 μ7) (fun r11 μ10 => 
  if r8 = (0 : Int32) then none else (
  some ((r11 / r8), μ10)))) else (
  bn (f_Ta_found N ((4 : Int32)) μ7) (fun r13 μ12 => 
  some (r13, μ12))))) else (
  bn (f_Ta_found N ((1 : Int32)) μ4) (fun r15 μ14 => 
  some (r15, μ14))))))
def f_W_fence_B180 (N : Nat)    (μ : Mm) : Option (Int32 × Mm) :=
  some ((μ.1 6 1), μ)
def f_W_fence_B161 (N : Nat)  (k127 : Int32 → Int32 → Int32 → Mm → Option (Int32 × Mm)) (v1 : Int32) (v3 : Int32) (v6 : Int32) (s1 : Int32) (s2 : Int32) (μ : Mm) : Option (Int32 × Mm) :=
  bn (f_Sf_byteAt N v1 v6 μ) (fun r24 μ23 => 
  bv (f_Gr_build N s1 s2 r24 μ23) (fun μ25 => 
  let x26 := (v6 + (1 : Int32))
  k127 v1 v3 x26 μ25))
def f_W_fence_L127 (N : Nat)   : Nat → Int32 → Int32 → Int32 → Mm → Option (Int32 × Mm)
  | 0, _, _, _, _ => none
  | n + 1, v1, v3, v6, μ =>
    if v3 ≤ v6 then (
    f_W_fence_B180 N μ) else (
    if (μ.1 6 1) ≤ (v6 + (1 : Int32)) then (
    f_W_fence_B161 N (f_W_fence_L127 N n) v1 v3 v6 v6 (0 : Int32) μ) else (
    f_W_fence_B161 N (f_W_fence_L127 N n) v1 v3 v6 v6 (v6 + (1 : Int32)) μ))
def f_W_fence_B121 (N : Nat)   (v1 : Int32) (v3 : Int32) (s1 : Int32) (s2 : Int32) (μ : Mm) : Option (Int32 × Mm) :=
  bv (f_Gr_begin N s1 s2 μ) (fun μ20 => 
  f_W_fence_L127 N N v1 v3 (0 : Int32) μ20)
def f_W_fence_B110 (N : Nat)   (v1 : Int32) (v2 : Int32) (v3 : Int32) (s1 : Int32) (μ : Mm) : Option (Int32 × Mm) :=
  if v2 = (0 : Int32) then (
  f_W_fence_B121 N v1 v3 s1 (v3 + (1 : Int32)) μ) else (
  f_W_fence_B121 N v1 v3 s1 v3 μ)
def f_W_fence_B88 (N : Nat)    (μ : Mm) : Option (Int32 × Mm) :=
  bn (f_Ta_found N ((5 : Int32)) μ) (fun r28 μ27 => 
  some (r28, μ27))
def f_W_fence_B60 (N : Nat)   (v1 : Int32) (v2 : Int32) (v3 : Int32) (v4 : Int32) (s0 : Int32) (μ : Mm) : Option (Int32 × Mm) :=
  if v3 < v4 then (
  f_W_fence_B88 N μ) else (
  if s0 < v3 then (
  f_W_fence_B88 N μ) else (
  bn (f_Sf_allWithin N v1 ((1 : Int32)) ((30 : Int32)) μ) (fun r16 μ15 => 
  if r16 = (0 : Int32) then (
  f_W_fence_B88 N μ15) else (
  if v2 = (0 : Int32) then (
  f_W_fence_B110 N v1 v2 v3 (0 : Int32) μ15) else (
  f_W_fence_B110 N v1 v2 v3 (1 : Int32) μ15)))))
def f_W_fence_B47 (N : Nat)   (v1 : Int32) (v2 : Int32) (v3 : Int32) (s0 : Int32) (μ : Mm) : Option (Int32 × Mm) :=
  if v2 = (0 : Int32) then (
  f_W_fence_B60 N v1 v2 v3 s0 (15 : Int32) μ) else (
  f_W_fence_B60 N v1 v2 v3 s0 (16 : Int32) μ)
def f_W_fence (N : Nat) (a1 : Int32) (a2 : Int32) (μ : Mm) : Option (Int32 × Mm) :=
  bn (f_W_isRow N a1 μ) (fun r2 μ1 => 
  if r2 = (0 : Int32) then (
  some ((-1 : Int32), μ1)) else (
  bn (f_Sf_lacks N a1 μ1) (fun r5 μ4 => 
  if r5 = (0 : Int32) then (
  bn (f_Sf_sizeOf N a1 μ4) (fun r8 μ7 => 
  if a2 = (0 : Int32) then (
  f_W_fence_B47 N a1 a2 r8 (1 : Int32) μ7) else (
  f_W_fence_B47 N a1 a2 r8 (3 : Int32) μ7))) else (
  bn (f_Ta_found N ((1 : Int32)) μ4) (fun r11 μ10 => 
  some (r11, μ10))))))
def f_W_net (N : Nat) (a1 : Int32) (μ : Mm) : Option (Int32 × Mm) :=
  if a1 < (1 : Int32) then (
  some ((-1 : Int32), μ)) else (
  if a1 ≤ (16 : Int32) then (
  bv (f_Gr_begin N ((2 : Int32)) a1 μ) (fun μ3 => 
  some (a1, μ3))) else (
  some ((-1 : Int32), μ)))
def f_W_wall (N : Nat) (a1 : Int32) (a2 : Int32) (a3 : Int32) (μ : Mm) : Option (Int32 × Mm) :=
  bn (f_Gr_has N a1 μ) (fun r2 μ1 => 
  if r2 = (0 : Int32) then (
  some ((-1 : Int32), μ1)) else (
  bn (f_Gr_has N a2 μ1) (fun r5 μ4 => 
  if r5 = (0 : Int32) then (
  some ((-1 : Int32), μ4)) else (
  if a1 = a2 then (
  some ((-1 : Int32), μ4)) else (
  if a3 < (1 : Int32) then (
  some ((-1 : Int32), μ4)) else (
  if (30 : Int32) < a3 then (
  some ((-1 : Int32), μ4)) else (
  bn (f_Gr_lengthOf N a1 a2 μ4) (fun r11 μ10 => 
  if r11 = (0 : Int32) then (
  if (μ10.1 6 2) < (40 : Int32) then (
  if (μ10.1 6 0) = (2 : Int32) then (
  bv (f_Gr_build N a1 a2 a3 μ10) (fun μ15 => 
  some ((μ15.1 6 2), μ15))) else (
  bn (f_Ta_found N ((3 : Int32)) μ10) (fun r17 μ16 => 
  some (r17, μ16)))) else (
  some ((-2 : Int32), μ10))) else (
  some ((-1 : Int32), μ10))))))))))
def f_W_breaks_B76 (N : Nat)   (v5 : Int32) (μ : Mm) : Option (Int32 × Mm) :=
  if v5 = (0 : Int32) then (
  some ((0 : Int32), μ)) else (
  some ((1 : Int32), μ))
def f_W_breaks_B59 (N : Nat)   (v1 : Int32) (v2 : Int32) (v3 : Int32) (s0 : Int32) (μ : Mm) : Option (Int32 × Mm) :=
  if s0 = v3 then (
  f_W_breaks_B76 N s0 μ) else (
  bv (f_Gr_turnBroken N v1 v2 μ) (fun μ14 => 
  f_W_breaks_B76 N s0 μ14))
def f_W_breaks (N : Nat) (a1 : Int32) (a2 : Int32) (a3 : Int32) (μ : Mm) : Option (Int32 × Mm) :=
  bn (f_Gr_has N a1 μ) (fun r2 μ1 => 
  if r2 = (0 : Int32) then (
  some ((-1 : Int32), μ1)) else (
  bn (f_Gr_has N a2 μ1) (fun r5 μ4 => 
  if r5 = (0 : Int32) then (
  some ((-1 : Int32), μ4)) else (
  bn (f_Gr_lengthOf N a1 a2 μ4) (fun r8 μ7 => 
  if r8 = (0 : Int32) then (
  bn (f_Ta_found N ((1 : Int32)) μ7) (fun r11 μ10 => 
  some (r11, μ10))) else (
  if (0 : Int32) ≤ r8 then (
  f_W_breaks_B59 N a1 a2 a3 (0 : Int32) μ7) else (
  f_W_breaks_B59 N a1 a2 a3 (1 : Int32) μ7)))))))
def f_W_far (N : Nat) (a1 : Int32) (a2 : Int32) (μ : Mm) : Option (Int32 × Mm) :=
  bn (f_Gr_has N a1 μ) (fun r2 μ1 => 
  if r2 = (0 : Int32) then (
  some ((-1 : Int32), μ1)) else (
  bn (f_Gr_has N a2 μ1) (fun r5 μ4 => 
  if r5 = (0 : Int32) then (
  some ((-1 : Int32), μ4)) else (
  bv (f_Gr_measure N μ4) (fun μ7 => 
  bn (f_Gr_farOf N a1 a2 μ7) (fun r9 μ8 => 
  some (r9, μ8)))))))
def f_W_worth (N : Nat) (a1 : Int32) (a2 : Int32) (μ : Mm) : Option (Int32 × Mm) :=
  bn (f_Gr_has N a1 μ) (fun r2 μ1 => 
  if r2 = (0 : Int32) then (
  some ((-1 : Int32), μ1)) else (
  if a2 < (0 : Int32) then (
  some ((-1 : Int32), μ1)) else (
  if a2 ≤ (9 : Int32) then (
  bn (f_Gr_changeWorth N a1 a2 μ1) (fun r7 μ6 => 
  some (r7, μ6))) else (
  some ((-1 : Int32), μ1)))))
def f_W_base (N : Nat) (a1 : Int32) (a2 : Int32) (μ : Mm) : Option (Int32 × Mm) :=
  bn (f_Gr_has N a1 μ) (fun r2 μ1 => 
  if r2 = (0 : Int32) then (
  some ((-1 : Int32), μ1)) else (
  bn (f_Gr_changeBase N a1 a2 μ1) (fun r5 μ4 => 
  if r5 = (0 : Int32) then (
  some ((0 : Int32), μ4)) else (
  some ((1 : Int32), μ4)))))
def f_W_isWalkerAsTold (N : Nat) (a1 : Int32) (a2 : Int32) (a3 : Int32) (μ : Mm) : Option (Int32 × Mm) :=
  if a1 = (0 : Int32) then (
  some ((1 : Int32), μ)) else if a1 = (1 : Int32) then (
  if a2 < (1 : Int32) then (
  some ((0 : Int32), μ)) else (
  if (6 : Int32) < a2 then (
  some ((0 : Int32), μ)) else (
  some ((1 : Int32), μ)))) else if a1 = (2 : Int32) then (
  if a2 < (1 : Int32) then (
  some ((0 : Int32), μ)) else (
  if (6 : Int32) < a2 then (
  some ((0 : Int32), μ)) else (
  if a3 < (1 : Int32) then (
  some ((0 : Int32), μ)) else (
  if (500 : Int32) < a3 then (
  some ((0 : Int32), μ)) else (
  some ((1 : Int32), μ)))))) else if a1 = (3 : Int32) then (
  bn (f_Gr_has N a2 μ) (fun r8 μ7 => 
  if zb r8 = true then some (r8, μ7) else none)) else (
  some ((0 : Int32), μ))
def f_W_walker (N : Nat) (a1 : Int32) (a2 : Int32) (a3 : Int32) (μ : Mm) : Option (Int32 × Mm) :=
  bn (f_W_isWalkerAsTold N a1 a2 a3 μ) (fun r2 μ1 => 
  if r2 = (0 : Int32) then (
  some ((-1 : Int32), μ1)) else (
  if (μ1.1 11 1) < (8 : Int32) then (
  bn (f_Cr_add N a1 a2 a3 μ1) (fun r6 μ5 => 
  some (r6, μ5))) else (
  some ((-2 : Int32), μ1))))
def f_W_home (N : Nat) (a1 : Int32) (μ : Mm) : Option (Int32 × Mm) :=
  bn (f_Cr_has N a1 μ) (fun r2 μ1 => 
  if r2 = (0 : Int32) then (
  some ((-1 : Int32), μ1)) else (
  bn (f_Cr_lacks N a1 μ1) (fun r5 μ4 => 
  if r5 = (0 : Int32) then (
  bn (f_Cr_changing N a1 μ4) (fun r8 μ7 => 
  if r8 < 8 then (
  let μ10 := sI μ7 (WK r8) 6 (1 : Int32)
  some ((1 : Int32), μ10)) else none)) else (
  bn (f_Ta_found N ((1 : Int32)) μ4) (fun r12 μ11 => 
  some (r12, μ11))))))
def f_W_view (N : Nat) (a1 : Int32) (a2 : Int32) (μ : Mm) : Option (Int32 × Mm) :=
  bn (f_Cr_has N a1 μ) (fun r2 μ1 => 
  if r2 = (0 : Int32) then (
  some ((-1 : Int32), μ1)) else (
  if a2 < (0 : Int32) then (
  some ((-1 : Int32), μ1)) else (
  if a2 ≤ (40 : Int32) then (
  bn (f_Cr_lacks N a1 μ1) (fun r7 μ6 => 
  if r7 = (0 : Int32) then (
  bn (f_Cr_changing N a1 μ6) (fun r10 μ9 => 
  if r10 < 8 then (
  let x12 := (μ9.1 (WK r10) 4)
  let μ13 := sI μ9 (WK r10) 4 a2
  some (x12, μ13)) else none)) else (
  bn (f_Ta_found N ((1 : Int32)) μ6) (fun r15 μ14 => 
  some (r15, μ14))))) else (
  some ((-1 : Int32), μ1)))))
def f_W_lose (N : Nat) (a1 : Int32) (a2 : Int32) (μ : Mm) : Option (Int32 × Mm) :=
  bn (f_Cr_has N a1 μ) (fun r2 μ1 => 
  if r2 = (0 : Int32) then (
  some ((-1 : Int32), μ1)) else (
  bn (f_Cr_lacks N a1 μ1) (fun r5 μ4 => 
  if r5 = (0 : Int32) then (
  bn (f_Cr_changing N a1 μ4) (fun r8 μ7 => 
  if r8 < 8 then (
  let x10 := (μ7.1 (WK r8) 5)
  if zb a2 = true then (
  let μ11 := sI μ7 (WK r8) 5 a2
  if x10 = (0 : Int32) then (
  some ((0 : Int32), μ11)) else (
  some ((1 : Int32), μ11))) else none) else none)) else (
  bn (f_Ta_found N ((1 : Int32)) μ4) (fun r14 μ13 => 
  some (r14, μ13))))))
def f_W_told (N : Nat) (a1 : Int32) (a2 : Int32) (μ : Mm) : Option (Int32 × Mm) :=
  bn (f_Cr_has N a1 μ) (fun r2 μ1 => 
  if r2 = (0 : Int32) then (
  some ((-1 : Int32), μ1)) else (
  if a2 < (0 : Int32) then (
  some ((-1 : Int32), μ1)) else (
  if a2 ≤ (6 : Int32) then (
  bn (f_Cr_lacks N a1 μ1) (fun r7 μ6 => 
  if r7 = (0 : Int32) then (
  bv (f_Cr_refresh N μ6) (fun μ9 => 
  bn (f_Cr_tell N a1 a2 μ9) (fun r11 μ10 => 
  some (r11, μ10)))) else (
  bn (f_Ta_found N ((1 : Int32)) μ6) (fun r13 μ12 => 
  some (r13, μ12))))) else (
  some ((-1 : Int32), μ1)))))
def f_W_mark (N : Nat) (a1 : Int32) (a2 : Int32) (μ : Mm) : Option (Int32 × Mm) :=
  bn (f_Cr_has N a1 μ) (fun r2 μ1 => 
  if r2 = (0 : Int32) then (
  some ((-1 : Int32), μ1)) else (
  if a2 < (0 : Int32) then (
  some ((-1 : Int32), μ1)) else (
  if a2 ≤ (3 : Int32) then (
  bn (f_Cr_lacks N a1 μ1) (fun r7 μ6 => 
  if r7 = (0 : Int32) then (
  bn (f_Cr_get N a1 μ6) (fun r10 μ9 => 
  if r10 < 8 then (
  bn (f_Wk_isOf N r10 a2 μ9) (fun r13 μ12 => 
  if r13 = (0 : Int32) then (
  bn (f_Ta_found N ((3 : Int32)) μ12) (fun r16 μ15 => 
  some (r16, μ15))) else (
  bn (f_Wk_markOf N r10 a2 μ12) (fun r18 μ17 => 
  some (r18, μ17))))) else none)) else (
  bn (f_Ta_found N ((1 : Int32)) μ6) (fun r20 μ19 => 
  some (r20, μ19))))) else (
  some ((-1 : Int32), μ1)))))
def f_W_writePlan_B103 (N : Nat)  (k46 : Nat → Int32 → Int32 → Int32 → Int32 → Mm → Option Mm) (v1 : Nat) (v2 : Int32) (v3 : Int32) (v5 : Int32) (v6 : Int32) (s0 : Nat) (s1 : Int32) (s2 : Int32) (μ : Mm) : Option Mm :=
  if ixb s1 24 = true then (
  let μ19 := sI μ (WK s0 + 2) (s1).toNatClampNeg s2
  let x20 := (v6 + (1 : Int32))
  k46 v1 v2 v3 v5 x20 μ19) else none
def f_W_writePlan_L46 (N : Nat)   : Nat → Nat → Int32 → Int32 → Int32 → Int32 → Mm → Option Mm
  | 0, _, _, _, _, _, _ => none
  | n + 1, v1, v2, v3, v5, v6, μ =>
    if (μ.1 (WK v1) 8) ≤ v6 then (
    some μ) else (
    bn (f_Sf_byteAt N v2 v6 μ) (fun r12 μ11 => 
    if ixb v6 24 = true then (
    let μ13 := sI μ11 (WK v1 + 1) (v6).toNatClampNeg r12
    if v5 ≤ v6 then (
    f_W_writePlan_B103 N (f_W_writePlan_L46 N n) v1 v2 v3 v5 v6 v1 v6 (0 : Int32) μ13) else (
    bn (f_Sf_byteAt N v3 v6 μ13) (fun r16 μ15 => 
    bn (f_Jm_max_7cf53 N ((0 : Int32)) r16 μ15) (fun r18 μ17 => 
    f_W_writePlan_B103 N (f_W_writePlan_L46 N n) v1 v2 v3 v5 v6 v1 v6 r18 μ17)))) else none))
def f_W_writePlan_B41 (N : Nat)   (v1 : Nat) (v2 : Int32) (v3 : Int32) (s0 : Int32) (μ : Mm) : Option Mm :=
  f_W_writePlan_L46 N N v1 v2 v3 s0 (0 : Int32) μ
def f_W_writePlan (N : Nat) (a1 : Nat) (a2 : Int32) (a3 : Int32) (a4 : Int32) (μ : Mm) : Option Mm :=
  bn (f_Sf_sizeOf N a2 μ) (fun r2 μ1 => 
  bn (f_Jm_min_7cf53 N r2 ((24 : Int32)) μ1) (fun r4 μ3 => 
  let μ5 := sI μ3 (WK a1) 8 r4
  let μ6 := sI μ5 (WK a1) 7 a4
  if a3 = (-9 : Int32) then (
  f_W_writePlan_B41 N a1 a2 a3 (0 : Int32) μ6) else (
  bn (f_Sf_sizeOf N a3 μ6) (fun r9 μ8 => 
  f_W_writePlan_B41 N a1 a2 a3 r9 μ8))))
def f_W_plan_B186 (N : Nat)    (μ : Mm) : Option (Int32 × Mm) :=
  bn (f_Ta_found N ((2 : Int32)) μ) (fun r47 μ46 => 
  some (r47, μ46))
def f_W_plan_B152 (N : Nat)    (μ : Mm) : Option (Int32 × Mm) :=
  bn (f_Ta_found N ((5 : Int32)) μ) (fun r49 μ48 => 
  some (r49, μ48))
def f_W_plan_B105 (N : Nat)   (v1 : Int32) (v2 : Int32) (v3 : Int32) (v4 : Int32) (μ : Mm) : Option (Int32 × Mm) :=
  bn (f_Cr_get N v1 μ) (fun r27 μ26 => 
  if r27 < 8 then (
  if (μ26.1 (WK r27) 0) = (3 : Int32) then (
  bn (f_Ta_found N ((3 : Int32)) μ26) (fun r31 μ30 => 
  some (r31, μ30))) else (
  bn (f_Sf_sizeOf N v2 μ26) (fun r33 μ32 => 
  if r33 < (2 : Int32) then (
  f_W_plan_B152 N μ32) else (
  if r33 ≤ (24 : Int32) then (
  bn (f_Sf_allWithin N v2 ((0 : Int32)) ((15 : Int32)) μ32) (fun r37 μ36 => 
  if r37 = (0 : Int32) then (
  f_W_plan_B186 N μ36) else (
  bn (f_Sf_hasTwins N v2 μ36) (fun r40 μ39 => 
  if r40 = (0 : Int32) then (
  bn (f_Cr_changing N v1 μ39) (fun r43 μ42 => 
  if r43 < 8 then (
  bv (f_W_writePlan N r43 v2 v3 v4 μ42) (fun μ45 => 
  some (r33, μ45))) else none)) else (
  f_W_plan_B186 N μ39))))) else (
  f_W_plan_B152 N μ32))))) else none)
def f_W_plan_B96 (N : Nat)    (μ : Mm) : Option (Int32 × Mm) :=
  bn (f_Ta_found N ((1 : Int32)) μ) (fun r25 μ24 => 
  some (r25, μ24))
def f_W_plan_B43 (N : Nat)   (v1 : Int32) (v2 : Int32) (v3 : Int32) (v4 : Int32) (v5 : Int32) (μ : Mm) : Option (Int32 × Mm) :=
  if v4 < (0 : Int32) then (
  some ((-1 : Int32), μ)) else (
  if v4 < (14400 : Int32) then (
  bn (f_Cr_lacks N v1 μ) (fun r15 μ14 => 
  if r15 = (0 : Int32) then (
  bn (f_Sf_lacks N v2 μ14) (fun r18 μ17 => 
  if r18 = (0 : Int32) then (
  if v5 = (0 : Int32) then (
  f_W_plan_B105 N v1 v2 v3 v4 μ17) else (
  bn (f_Sf_lacks N v3 μ17) (fun r22 μ21 => 
  if r22 = (0 : Int32) then (
  f_W_plan_B105 N v1 v2 v3 v4 μ21) else (
  f_W_plan_B96 N μ21)))) else (
  f_W_plan_B96 N μ17))) else (
  f_W_plan_B96 N μ14))) else (
  some ((-1 : Int32), μ)))
def f_W_plan_B11 (N : Nat)   (v1 : Int32) (v2 : Int32) (v3 : Int32) (v4 : Int32) (s0 : Int32) (μ : Mm) : Option (Int32 × Mm) :=
  bn (f_Cr_has N v1 μ) (fun r3 μ2 => 
  if r3 = (0 : Int32) then (
  some ((-1 : Int32), μ2)) else (
  bn (f_W_isRow N v2 μ2) (fun r6 μ5 => 
  if r6 = (0 : Int32) then (
  some ((-1 : Int32), μ5)) else (
  if s0 = (0 : Int32) then (
  f_W_plan_B43 N v1 v2 v3 v4 s0 μ5) else (
  bn (f_W_isRow N v3 μ5) (fun r10 μ9 => 
  if r10 = (0 : Int32) then (
  some ((-1 : Int32), μ9)) else (
  f_W_plan_B43 N v1 v2 v3 v4 s0 μ9)))))))
def f_W_plan (N : Nat) (a1 : Int32) (a2 : Int32) (a3 : Int32) (a4 : Int32) (μ : Mm) : Option (Int32 × Mm) :=
  if a3 = (-9 : Int32) then (
  f_W_plan_B11 N a1 a2 a3 a4 (0 : Int32) μ) else (
  f_W_plan_B11 N a1 a2 a3 a4 (1 : Int32) μ)
def f_W_unplan (N : Nat) (a1 : Int32) (μ : Mm) : Option (Int32 × Mm) :=
  bn (f_Cr_has N a1 μ) (fun r2 μ1 => 
  if r2 = (0 : Int32) then (
  some ((-1 : Int32), μ1)) else (
  bn (f_Cr_lacks N a1 μ1) (fun r5 μ4 => 
  if r5 = (0 : Int32) then (
  bn (f_Cr_changing N a1 μ4) (fun r8 μ7 => 
  if r8 < 8 then (
  let x10 := (μ7.1 (WK r8) 8)
  let μ11 := sI μ7 (WK r8) 8 (0 : Int32)
  some (x10, μ11)) else none)) else (
  bn (f_Ta_found N ((1 : Int32)) μ4) (fun r13 μ12 => 
  some (r13, μ12))))))
def f_W_planned_B56 (N : Nat)    (μ : Mm) : Option (Int32 × Mm) :=
  bn (f_Ta_found N ((2 : Int32)) μ) (fun r16 μ15 => 
  some (r16, μ15))
def f_W_planned (N : Nat) (a1 : Int32) (a2 : Int32) (a3 : Int32) (μ : Mm) : Option (Int32 × Mm) :=
  bn (f_Cr_has N a1 μ) (fun r2 μ1 => 
  if r2 = (0 : Int32) then (
  some ((-1 : Int32), μ1)) else (
  bn (f_Cr_lacks N a1 μ1) (fun r5 μ4 => 
  if r5 = (0 : Int32) then (
  bn (f_Cr_get N a1 μ4) (fun r8 μ7 => 
  if r8 < 8 then (
  if a2 < (0 : Int32) then (
  f_W_planned_B56 N μ7) else (
  if a2 < (μ7.1 (WK r8) 8) then (
  if a3 = (0 : Int32) then (
  if ixb a2 24 = true then (
  some ((μ7.1 (WK r8 + 1) (a2).toNatClampNeg), μ7)) else none) else (
  if ixb a2 24 = true then (
  some ((μ7.1 (WK r8 + 2) (a2).toNatClampNeg), μ7)) else none)) else (
  f_W_planned_B56 N μ7))) else none)) else (
  bn (f_Ta_found N ((1 : Int32)) μ4) (fun r14 μ13 => 
  some (r14, μ13))))))
def f_W_fit (N : Nat) (a1 : Int32) (μ : Mm) : Option (Int32 × Mm) :=
  bn (f_Cr_has N a1 μ) (fun r2 μ1 => 
  if r2 = (0 : Int32) then (
  some ((-1 : Int32), μ1)) else (
  bn (f_Cr_lacks N a1 μ1) (fun r5 μ4 => 
  if r5 = (0 : Int32) then (
  bn (f_Cr_get N a1 μ4) (fun r8 μ7 => 
  if r8 < 8 then (
  bn (f_Wk_faultOn N r8 μ7) (fun r11 μ10 => 
  some (r11, μ10))) else none)) else (
  bn (f_Ta_found N ((1 : Int32)) μ4) (fun r13 μ12 => 
  some (r13, μ12))))))
def f_W_isTime (N : Nat) (a1 : Int32) (μ : Mm) : Option (Int32 × Mm) :=
  if a1 < (0 : Int32) then (
  some ((0 : Int32), μ)) else (
  if (100000 : Int32) < a1 then (
  some ((0 : Int32), μ)) else (
  some ((1 : Int32), μ)))
def f_W_where (N : Nat) (a1 : Int32) (a2 : Int32) (a3 : Int32) (μ : Mm) : Option (Int32 × Mm) :=
  bn (f_Cr_has N a1 μ) (fun r2 μ1 => 
  if r2 = (0 : Int32) then (
  some ((-1 : Int32), μ1)) else (
  bn (f_W_isTime N a2 μ1) (fun r5 μ4 => 
  if r5 = (0 : Int32) then (
  some ((-1 : Int32), μ4)) else (
  if a3 < (0 : Int32) then (
  some ((-1 : Int32), μ4)) else (
  if a3 ≤ (2 : Int32) then (
  bn (f_Cr_lacks N a1 μ4) (fun r10 μ9 => 
  if r10 = (0 : Int32) then (
  bv (f_Cr_refresh N μ9) (fun μ12 => 
  bn (f_Cr_goes N a1 μ12) (fun r14 μ13 => 
  if r14 = (0 : Int32) then (
  some ((-4 : Int32), μ13)) else (
  bn (f_Cr_get N a1 μ13) (fun r17 μ16 => 
  if r17 < 8 then (
  bn (f_Wk_placeAt N r17 a2 a3 μ16) (fun r20 μ19 => 
  some (r20, μ19))) else none))))) else (
  bn (f_Ta_found N ((1 : Int32)) μ9) (fun r22 μ21 => 
  some (r22, μ21))))) else (
  some ((-1 : Int32), μ4)))))))
def f_W_joint (N : Nat)  (μ : Mm) : Option (Int32 × Mm) :=
  bv (f_Cr_refresh N μ) (fun μ1 => 
  bn (f_Cr_jointOf N ((μ1.1 11 2)) μ1) (fun r3 μ2 => 
  some (r3, μ2)))
def f_Ji_bitCount_0f7a4 (N : Nat) (a1 : Int32) (μ : Mm) : Option (Int32 × Mm) :=
  let x1 := (a1 - (((a1).toUInt32 >>> (((1 : Int32)).toUInt32 &&& Int32.toUInt32 31)).toInt32 &&& (1431655765 : Int32)))
  let x2 := ((x1 &&& (858993459 : Int32)) + (((x1).toUInt32 >>> (((2 : Int32)).toUInt32 &&& Int32.toUInt32 31)).toInt32 &&& (858993459 : Int32)))
  let x3 := ((x2 + ((x2).toUInt32 >>> (((4 : Int32)).toUInt32 &&& Int32.toUInt32 31)).toInt32) &&& (252645135 : Int32))
  let x4 := (x3 + ((x3).toUInt32 >>> (((8 : Int32)).toUInt32 &&& Int32.toUInt32 31)).toInt32)
  let x5 := (x4 + ((x4).toUInt32 >>> (((16 : Int32)).toUInt32 &&& Int32.toUInt32 31)).toInt32)
  some ((x5 &&& (63 : Int32)), μ)
def f_W_seen (N : Nat) (a1 : Int32) (μ : Mm) : Option (Int32 × Mm) :=
  bn (f_W_isTime N a1 μ) (fun r2 μ1 => 
  if r2 = (0 : Int32) then (
  some ((-1 : Int32), μ1)) else (
  bn (f_W_joint N μ1) (fun r5 μ4 => 
  if (1 : Int32) ≤ r5 then (
  bn (f_Cr_seenAt N a1 μ4) (fun r8 μ7 => 
  let μ9 := sI μ7 1 2 r8
  bn (f_Ji_bitCount_0f7a4 N ((μ9.1 1 2)) μ9) (fun r11 μ10 => 
  some (r11, μ10)))) else (
  some ((-6 : Int32), μ4)))))
def f_W_watchPost (N : Nat) (a1 : Int32) (a2 : Int32) (μ : Mm) : Option (Int32 × Mm) :=
  bn (f_Gr_has N a1 μ) (fun r2 μ1 => 
  if r2 = (0 : Int32) then (
  some ((-1 : Int32), μ1)) else (
  bv (f_Cr_refresh N μ1) (fun μ4 => 
  bn (f_Cr_jointOf N ((μ4.1 11 2)) μ4) (fun r6 μ5 => 
  if (1 : Int32) ≤ r6 then (
  bv (f_Wa_look N ((μ5.1 11 2)) (((1 : Int32) <<< (a1 &&& 31))) a2 μ5) (fun μ8 => 
  some ((0 : Int32), μ8))) else (
  some ((-6 : Int32), μ5))))))
def f_W_idle (N : Nat) (a1 : Int32) (μ : Mm) : Option (Int32 × Mm) :=
  bn (f_W_watchPost N a1 ((1 : Int32)) μ) (fun r2 μ1 => 
  if (0 : Int32) ≤ r2 then (
  bn (f_Wa_idleOf N a1 μ1) (fun r5 μ4 => 
  some (r5, μ4))) else (
  some (r2, μ1)))
def f_W_idleFrom (N : Nat) (a1 : Int32) (μ : Mm) : Option (Int32 × Mm) :=
  bn (f_W_watchPost N a1 ((1 : Int32)) μ) (fun r2 μ1 => 
  if (0 : Int32) ≤ r2 then (
  bn (f_Wa_idleStartOf N a1 μ1) (fun r5 μ4 => 
  some (r5, μ4))) else (
  some (r2, μ1)))
def f_W_worst (N : Nat)  (μ : Mm) : Option (Int32 × Mm) :=
  bn (f_W_joint N μ) (fun r2 μ1 => 
  if (1 : Int32) ≤ r2 then (
  bn (f_Gr_worthy N μ1) (fun r5 μ4 => 
  bv (f_Wa_look N ((μ1.1 11 2)) r5 ((1 : Int32)) μ4) (fun μ6 => 
  bn (f_Wa_worstPost N μ6) (fun r8 μ7 => 
  if r8 < (0 : Int32) then (
  some (r8, μ7)) else (
  bn (f_Wa_loadOf N r8 μ7) (fun r11 μ10 => 
  let μ12 := sI μ10 1 2 r11
  some (r8, μ12))))))) else (
  some ((-6 : Int32), μ1)))
def f_W_share (N : Nat) (a1 : Int32) (μ : Mm) : Option (Int32 × Mm) :=
  bn (f_W_watchPost N a1 ((1 : Int32)) μ) (fun r2 μ1 => 
  if (0 : Int32) ≤ r2 then (
  bn (f_Wa_unseenOf N a1 μ1) (fun r5 μ4 => 
  bv (f_Ta_tellFraction N (((((μ1.1 61 0) - r5)).toInt64)) ((((μ4.1 61 0)).toInt64)) μ4) (fun μ6 => 
  some ((1 : Int32), μ6)))) else (
  some (r2, μ1)))
def f_W_isNeed (N : Nat) (a1 : Int32) (μ : Mm) : Option (Int32 × Mm) :=
  if a1 < (1 : Int32) then (
  some ((0 : Int32), μ)) else (
  if (14400 : Int32) < a1 then (
  some ((0 : Int32), μ)) else (
  some ((1 : Int32), μ)))
def f_W_chance (N : Nat) (a1 : Int32) (a2 : Int32) (μ : Mm) : Option (Int32 × Mm) :=
  bn (f_W_isNeed N a2 μ) (fun r2 μ1 => 
  if r2 = (0 : Int32) then (
  some ((-1 : Int32), μ1)) else (
  bn (f_W_watchPost N a1 a2 μ1) (fun r5 μ4 => 
  if (0 : Int32) ≤ r5 then (
  bn (f_Wa_openingsOf N a1 μ4) (fun r8 μ7 => 
  bv (f_Ta_tellFraction N (((r8).toInt64)) ((((μ7.1 61 0)).toInt64)) μ7) (fun μ9 => 
  some ((1 : Int32), μ9)))) else (
  some (r5, μ4)))))
def f_W_thief (N : Nat) (a1 : Int32) (μ : Mm) : Option (Int32 × Mm) :=
  bn (f_W_isNeed N a1 μ) (fun r2 μ1 => 
  if r2 = (0 : Int32) then (
  some ((-1 : Int32), μ1)) else (
  bn (f_W_joint N μ1) (fun r5 μ4 => 
  if (1 : Int32) ≤ r5 then (
  bn (f_Gr_worthy N μ4) (fun r8 μ7 => 
  bv (f_Wa_look N ((μ4.1 11 2)) r8 a1 μ7) (fun μ9 => 
  bn (f_Wa_bestForThief N μ9) (fun r11 μ10 => 
  if r11 < (0 : Int32) then (
  some (r11, μ10)) else (
  bn (f_Wa_lureOf N r11 μ10) (fun r14 μ13 => 
  bv (f_Ta_tellFraction N (((r14).toInt64)) ((((μ13.1 61 0)).toInt64)) μ13) (fun μ15 => 
  some (r11, μ15)))))))) else (
  some ((-6 : Int32), μ4)))))
def f_W_safe (N : Nat)  (μ : Mm) : Option (Int32 × Mm) :=
  bn (f_W_joint N μ) (fun r2 μ1 => 
  if (1 : Int32) ≤ r2 then (
  bn (f_Gr_worthy N μ1) (fun r5 μ4 => 
  bv (f_Wa_look N ((μ1.1 11 2)) r5 ((1 : Int32)) μ4) (fun μ6 => 
  bn (f_Wa_longestIdle N μ6) (fun r8 μ7 => 
  some (r8, μ7))))) else (
  some ((-6 : Int32), μ1)))
def f_W_isLoss (N : Nat) (a1 : Int32) (a2 : Int32) (a3 : Int32) (μ : Mm) : Option (Int32 × Mm) :=
  if (a1 &&& (a2 ^^^ (-1 : Int32))) = (0 : Int32) then (
  bn (f_Ji_bitCount_0f7a4 N a1 μ) (fun r3 μ2 => 
  if r3 = a3 then (
  some ((1 : Int32), μ2)) else (
  some ((0 : Int32), μ2)))) else (
  some ((0 : Int32), μ))
def f_W_firstBlindSet_B50 (N : Nat)  (k11 : Int32 → Int32 → Int32 → Int32 → Mm → Option (Int32 × Mm)) (v1 : Int32) (v2 : Int32) (v3 : Int32) (v4 : Int32) (μ : Mm) : Option (Int32 × Mm) :=
  let x10 := (v4 + (1 : Int32))
  k11 v1 v2 v3 x10 μ
def f_W_firstBlindSet_L11 (N : Nat)   : Nat → Int32 → Int32 → Int32 → Int32 → Mm → Option (Int32 × Mm)
  | 0, _, _, _, _, _ => none
  | n + 1, v1, v2, v3, v4, μ =>
    if v1 < v4 then (
    some ((-9 : Int32), μ)) else (
    bn (f_W_isLoss N v4 v1 v2 μ) (fun r5 μ4 => 
    if r5 = (0 : Int32) then (
    f_W_firstBlindSet_B50 N (f_W_firstBlindSet_L11 N n) v1 v2 v3 v4 μ4) else (
    bn (f_Cr_everSeen N ((v1 &&& (v4 ^^^ (-1 : Int32)))) μ4) (fun r8 μ7 => 
    if (v3 &&& (r8 ^^^ (-1 : Int32))) = (0 : Int32) then (
    f_W_firstBlindSet_B50 N (f_W_firstBlindSet_L11 N n) v1 v2 v3 v4 μ7) else (
    some (v4, μ7))))))
def f_W_firstBlindSet (N : Nat) (a1 : Int32) (a2 : Int32) (μ : Mm) : Option (Int32 × Mm) :=
  bn (f_Gr_worthy N μ) (fun r2 μ1 => 
  f_W_firstBlindSet_L11 N N a1 a2 r2 (0 : Int32) μ1)
def f_W_isSpentWithAny_B34 (N : Nat)  (k2 : Int32 → Int32 → Int32 → Mm → Option (Int32 × Mm)) (v1 : Int32) (v2 : Int32) (v3 : Int32) (μ : Mm) : Option (Int32 × Mm) :=
  let x8 := (v3 + (1 : Int32))
  k2 v1 v2 x8 μ
def f_W_isSpentWithAny_L2 (N : Nat)   : Nat → Int32 → Int32 → Int32 → Mm → Option (Int32 × Mm)
  | 0, _, _, _, _ => none
  | n + 1, v1, v2, v3, μ =>
    if v1 < v3 then (
    some ((0 : Int32), μ)) else (
    bn (f_W_isLoss N v3 v1 v2 μ) (fun r3 μ2 => 
    if r3 = (0 : Int32) then (
    f_W_isSpentWithAny_B34 N (f_W_isSpentWithAny_L2 N n) v1 v2 v3 μ2) else (
    bn (f_Cr_jointOf N ((v1 &&& (v3 ^^^ (-1 : Int32)))) μ2) (fun r6 μ5 => 
    if (1 : Int32) ≤ r6 then (
    f_W_isSpentWithAny_B34 N (f_W_isSpentWithAny_L2 N n) v1 v2 v3 μ5) else (
    some ((1 : Int32), μ5))))))
def f_W_isSpentWithAny (N : Nat) (a1 : Int32) (a2 : Int32) (μ : Mm) : Option (Int32 × Mm) :=
  f_W_isSpentWithAny_L2 N N a1 a2 (0 : Int32) μ
def f_W_tellGreatestLoad_B97 (N : Nat)  (k14 : Int32 → Int32 → Int32 → Int32 → Int32 → Mm → Option (Int32 × Mm)) (v1 : Int32) (v2 : Int32) (v3 : Int32) (v4 : Int32) (v5 : Int32) (μ : Mm) : Option (Int32 × Mm) :=
  let x15 := (v5 + (1 : Int32))
  k14 v1 v2 v3 v4 x15 μ
def f_W_tellGreatestLoad_B75 (N : Nat)  (k14 : Int32 → Int32 → Int32 → Int32 → Int32 → Mm → Option (Int32 × Mm)) (v1 : Int32) (v2 : Int32) (v3 : Int32) (v4 : Int32) (v5 : Int32) (s0 : Int32) (μ : Mm) : Option (Int32 × Mm) :=
  if s0 ≤ v4 then (
  f_W_tellGreatestLoad_B97 N k14 v1 v2 v3 v4 v5 μ) else (
  let μ14 := sI μ 1 2 v5
  f_W_tellGreatestLoad_B97 N k14 v1 v2 v3 s0 v5 μ14)
def f_W_tellGreatestLoad_L14 (N : Nat)   : Nat → Int32 → Int32 → Int32 → Int32 → Int32 → Mm → Option (Int32 × Mm)
  | 0, _, _, _, _, _, _ => none
  | n + 1, v1, v2, v3, v4, v5, μ =>
    if v1 < v5 then (
    some (v4, μ)) else (
    bn (f_W_isLoss N v5 v1 v2 μ) (fun r5 μ4 => 
    if r5 = (0 : Int32) then (
    f_W_tellGreatestLoad_B97 N (f_W_tellGreatestLoad_L14 N n) v1 v2 v3 v4 v5 μ4) else (
    bv (f_Wa_look N ((v1 &&& (v5 ^^^ (-1 : Int32)))) v3 ((1 : Int32)) μ4) (fun μ7 => 
    bn (f_Wa_worstPost N μ7) (fun r9 μ8 => 
    if (0 : Int32) ≤ r9 then (
    bn (f_Wa_loadOf N r9 μ8) (fun r12 μ11 => 
    f_W_tellGreatestLoad_B75 N (f_W_tellGreatestLoad_L14 N n) v1 v2 v3 v4 v5 r12 μ11)) else (
    f_W_tellGreatestLoad_B75 N (f_W_tellGreatestLoad_L14 N n) v1 v2 v3 v4 v5 (0 : Int32) μ8))))))
def f_W_tellGreatestLoad (N : Nat) (a1 : Int32) (a2 : Int32) (μ : Mm) : Option (Int32 × Mm) :=
  bn (f_Gr_worthy N μ) (fun r2 μ1 => 
  f_W_tellGreatestLoad_L14 N N a1 a2 r2 (-1 : Int32) (0 : Int32) μ1)
def f_W_peril (N : Nat) (a1 : Int32) (μ : Mm) : Option (Int32 × Mm) :=
  if a1 < (0 : Int32) then (
  some ((-1 : Int32), μ)) else (
  if a1 ≤ (3 : Int32) then (
  bv (f_Cr_refresh N μ) (fun μ3 => 
  let x4 := (μ3.1 11 2)
  bn (f_Ji_bitCount_0f7a4 N x4 μ3) (fun r6 μ5 => 
  bn (f_Jm_min_7cf53 N a1 r6 μ5) (fun r8 μ7 => 
  bn (f_W_isSpentWithAny N x4 r8 μ7) (fun r10 μ9 => 
  if r10 = (0 : Int32) then (
  bn (f_W_firstBlindSet N x4 r8 μ9) (fun r13 μ12 => 
  if r13 < (0 : Int32) then (
  bn (f_W_tellGreatestLoad N x4 r8 μ12) (fun r16 μ15 => 
  some (r16, μ15))) else (
  let μ17 := sI μ12 1 2 r13
  some ((-9 : Int32), μ17)))) else (
  some ((-6 : Int32), μ9))))))) else (
  some ((-1 : Int32), μ)))
def f_W_isStart (N : Nat) (a1 : Int32) (μ : Mm) : Option (Int32 × Mm) :=
  if a1 < (0 : Int32) then (
  some ((0 : Int32), μ)) else (
  if (14400 : Int32) ≤ a1 then (
  some ((0 : Int32), μ)) else (
  some ((1 : Int32), μ)))
def f_W_tellTime (N : Nat) (a1 : Int64) (μ : Mm) : Option (Int32 × Mm) :=
  if (lg_cmp a1 (-1 : Int64)) = (0 : Int32) then (
  some ((-9 : Int32), μ)) else (
  bv (f_Ta_tellFraction N a1 ((27720 : Int64)) μ) (fun μ2 => 
  some ((1 : Int32), μ2)))
def f_W_meet_B58 (N : Nat)    (μ : Mm) : Option (Int32 × Mm) :=
  bn (f_Ta_found N ((1 : Int32)) μ) (fun r32 μ31 => 
  some (r32, μ31))
def f_W_meet (N : Nat) (a1 : Int32) (a2 : Int32) (a3 : Int32) (μ : Mm) : Option (Int32 × Mm) :=
  bn (f_Cr_has N a1 μ) (fun r2 μ1 => 
  if r2 = (0 : Int32) then (
  some ((-1 : Int32), μ1)) else (
  bn (f_Cr_has N a2 μ1) (fun r5 μ4 => 
  if r5 = (0 : Int32) then (
  some ((-1 : Int32), μ4)) else (
  if a1 = a2 then (
  some ((-1 : Int32), μ4)) else (
  bn (f_W_isStart N a3 μ4) (fun r9 μ8 => 
  if r9 = (0 : Int32) then (
  some ((-1 : Int32), μ8)) else (
  bn (f_Cr_lacks N a1 μ8) (fun r12 μ11 => 
  if r12 = (0 : Int32) then (
  bn (f_Cr_lacks N a2 μ11) (fun r15 μ14 => 
  if r15 = (0 : Int32) then (
  bv (f_Cr_refresh N μ14) (fun μ17 => 
  bn (f_Cr_goes N a1 μ17) (fun r19 μ18 => 
  if r19 = (0 : Int32) then (
  some ((-4 : Int32), μ18)) else (
  bn (f_Cr_goes N a2 μ18) (fun r22 μ21 => 
  if r22 = (0 : Int32) then (
  some ((-4 : Int32), μ21)) else (
  bn (f_Cr_jointOf N ((((1 : Int32) <<< (a1 &&& 31)) ||| ((1 : Int32) <<< (a2 &&& 31)))) μ21) (fun r25 μ24 => 
  if (1 : Int32) ≤ r25 then (
  bn (f_Me_firstOf N a1 a2 (((a3).toInt64 * (27720 : Int64))) μ24) (fun r28 μ27 => 
  bn (f_W_tellTime N r28 μ27) (fun r30 μ29 => 
  some (r30, μ29)))) else (
  some ((-6 : Int32), μ24))))))))) else (
  f_W_meet_B58 N μ14))) else (
  f_W_meet_B58 N μ11)))))))))
def f_W_word_B53 (N : Nat)    (μ : Mm) : Option (Int32 × Mm) :=
  bn (f_Ta_found N ((1 : Int32)) μ) (fun r33 μ32 => 
  some (r33, μ32))
def f_W_word (N : Nat) (a1 : Int32) (a2 : Int32) (a3 : Int32) (μ : Mm) : Option (Int32 × Mm) :=
  bn (f_Cr_has N a1 μ) (fun r2 μ1 => 
  if r2 = (0 : Int32) then (
  some ((-1 : Int32), μ1)) else (
  bn (f_Cr_has N a3 μ1) (fun r5 μ4 => 
  if r5 = (0 : Int32) then (
  some ((-1 : Int32), μ4)) else (
  bn (f_W_isStart N a2 μ4) (fun r8 μ7 => 
  if r8 = (0 : Int32) then (
  some ((-1 : Int32), μ7)) else (
  bn (f_Cr_lacks N a1 μ7) (fun r11 μ10 => 
  if r11 = (0 : Int32) then (
  bn (f_Cr_lacks N a3 μ10) (fun r14 μ13 => 
  if r14 = (0 : Int32) then (
  bv (f_Cr_refresh N μ13) (fun μ16 => 
  bn (f_Cr_goes N a1 μ16) (fun r18 μ17 => 
  if r18 = (0 : Int32) then (
  some ((-4 : Int32), μ17)) else (
  bn (f_Cr_goes N a3 μ17) (fun r21 μ20 => 
  if r21 = (0 : Int32) then (
  some ((-4 : Int32), μ20)) else (
  bn (f_Cr_isAnyPairSpent N μ20) (fun r24 μ23 => 
  if r24 = (0 : Int32) then (
  bn (f_Me_pass N a1 (((a2).toInt64 * (27720 : Int64))) (((1 : Int32) <<< (a3 &&& 31))) μ23) (fun r27 μ26 => 
  bn (f_Me_wordAt N a3 μ26) (fun r29 μ28 => 
  bn (f_W_tellTime N r29 μ28) (fun r31 μ30 => 
  some (r31, μ30))))) else (
  some ((-6 : Int32), μ23))))))))) else (
  f_W_word_B53 N μ13))) else (
  f_W_word_B53 N μ10))))))))
def f_W_spread (N : Nat) (a1 : Int32) (a2 : Int32) (μ : Mm) : Option (Int32 × Mm) :=
  bn (f_Cr_has N a1 μ) (fun r2 μ1 => 
  if r2 = (0 : Int32) then (
  some ((-1 : Int32), μ1)) else (
  bn (f_W_isStart N a2 μ1) (fun r5 μ4 => 
  if r5 = (0 : Int32) then (
  some ((-1 : Int32), μ4)) else (
  bn (f_Cr_lacks N a1 μ4) (fun r8 μ7 => 
  if r8 = (0 : Int32) then (
  bv (f_Cr_refresh N μ7) (fun μ10 => 
  bn (f_Cr_goes N a1 μ10) (fun r12 μ11 => 
  if r12 = (0 : Int32) then (
  some ((-4 : Int32), μ11)) else (
  bn (f_Cr_isAnyPairSpent N μ11) (fun r15 μ14 => 
  if r15 = (0 : Int32) then (
  bn (f_Me_pass N a1 (((a2).toInt64 * (27720 : Int64))) ((0 : Int32)) μ14) (fun r18 μ17 => 
  bn (f_Ji_bitCount_0f7a4 N r18 μ17) (fun r20 μ19 => 
  some (r20, μ19)))) else (
  some ((-6 : Int32), μ14))))))) else (
  bn (f_Ta_found N ((1 : Int32)) μ7) (fun r22 μ21 => 
  some (r22, μ21))))))))
def f_W_round (N : Nat)  (μ : Mm) : Option (Int32 × Mm) :=
  bn (f_Gr_worthy N μ) (fun r2 μ1 => 
  bn (f_Ji_bitCount_0f7a4 N r2 μ1) (fun r4 μ3 => 
  if r4 ≤ (10 : Int32) then (
  bv (f_To_refresh N μ3) (fun μ6 => 
  some ((μ6.1 75 0), μ6))) else (
  some ((-4 : Int32), μ3))))
def f_W_roundAt (N : Nat) (a1 : Int32) (μ : Mm) : Option (Int32 × Mm) :=
  bn (f_Gr_worthy N μ) (fun r2 μ1 => 
  bn (f_Ji_bitCount_0f7a4 N r2 μ1) (fun r4 μ3 => 
  if r4 ≤ (10 : Int32) then (
  bv (f_To_refresh N μ3) (fun μ6 => 
  bn (f_To_stopAt N a1 μ6) (fun r8 μ7 => 
  some (r8, μ7)))) else (
  some ((-4 : Int32), μ3))))
def f_W_parting (N : Nat)  (μ : Mm) : Option (Int32 × Mm) :=
  if (μ.1 6 0) = (0 : Int32) then (
  bn (f_Sh_settle N μ) (fun r3 μ2 => 
  some (r3, μ2))) else (
  bn (f_Ta_found N ((3 : Int32)) μ) (fun r5 μ4 => 
  some (r5, μ4)))
def f_W_partOf (N : Nat) (a1 : Int32) (a2 : Int32) (μ : Mm) : Option (Int32 × Mm) :=
  if a1 < (0 : Int32) then (
  some ((-1 : Int32), μ)) else (
  if a1 < (8 : Int32) then (
  if a2 = (0 : Int32) then (
  if ixb a1 8 = true then (
  some ((μ.1 80 (a1).toNatClampNeg), μ)) else none) else (
  if ixb a1 8 = true then (
  some ((μ.1 81 (a1).toNatClampNeg), μ)) else none)) else (
  some ((-1 : Int32), μ)))
def f_W_fuel_B64 (N : Nat)   (v2 : Nat) (μ : Mm) : Option (Int32 × Mm) :=
  bn (f_Wk_longestRide N v2 μ) (fun r17 μ16 => 
  some (r17, μ16))
def f_W_fuel (N : Nat) (a1 : Int32) (μ : Mm) : Option (Int32 × Mm) :=
  bn (f_Cr_has N a1 μ) (fun r2 μ1 => 
  if r2 = (0 : Int32) then (
  some ((-1 : Int32), μ1)) else (
  bn (f_Cr_lacks N a1 μ1) (fun r5 μ4 => 
  if r5 = (0 : Int32) then (
  bn (f_Cr_get N a1 μ4) (fun r8 μ7 => 
  if r8 < 8 then (
  bn (f_Wk_faultOn N r8 μ7) (fun r11 μ10 => 
  if r11 < (1 : Int32) then (
  f_W_fuel_B64 N r8 μ10) else (
  if (4 : Int32) < r11 then (
  f_W_fuel_B64 N r8 μ10) else (
  some ((-4 : Int32), μ10))))) else none)) else (
  bn (f_Ta_found N ((1 : Int32)) μ4) (fun r15 μ14 => 
  some (r15, μ14))))))
def f_W_asked (N : Nat)  (μ : Mm) : Option (Int32 × Mm) :=
  some ((μ.1 1 2), μ)
def f_W_upper (N : Nat)  (μ : Mm) : Option (Int64 × Mm) :=
  some ((μ.2 1 3), μ)
def f_W_lower (N : Nat)  (μ : Mm) : Option (Int64 × Mm) :=
  some ((μ.2 1 4), μ)
def f_W_count (N : Nat) (a1 : Int32) (μ : Mm) : Option (Int32 × Mm) :=
  if a1 = (0 : Int32) then (
  some ((μ.1 6 0), μ)) else if a1 = (1 : Int32) then (
  some ((μ.1 6 1), μ)) else if a1 = (2 : Int32) then (
  some ((μ.1 6 2), μ)) else if a1 = (3 : Int32) then (
  some ((μ.1 6 3), μ)) else if a1 = (4 : Int32) then (
  some ((μ.1 11 1), μ)) else if a1 = (5 : Int32) then (
  bv (f_Cr_refresh N μ) (fun μ1 => 
  bn (f_Ji_bitCount_0f7a4 N ((μ1.1 11 2)) μ1) (fun r3 μ2 => 
  some (r3, μ2)))) else if a1 = (6 : Int32) then (
  bn (f_Sf_present N μ) (fun r5 μ4 => 
  some (r5, μ4))) else (
  some ((-1 : Int32), μ))
def f_W_finding (N : Nat)  (μ : Mm) : Option (Int32 × Mm) :=
  some ((μ.1 1 1), μ)
def f_W_findings_B10 (N : Nat)    (μ : Mm) : Option (Int32 × Mm) :=
  some ((-1 : Int32), μ)
def f_W_findings (N : Nat) (a1 : Int32) (μ : Mm) : Option (Int32 × Mm) :=
  if a1 < (1 : Int32) then (
  f_W_findings_B10 N μ) else (
  if a1 ≤ (5 : Int32) then (
  if ixb a1 6 = true then (
  some ((μ.1 2 (a1).toNatClampNeg), μ)) else none) else (
  f_W_findings_B10 N μ))
def f_W_digest_B31 (N : Nat)   (v1 : Int64) (μ : Mm) : Option (Int64 × Mm) :=
  bn (f_Gr_mixInto N v1 μ) (fun r7 μ6 => 
  bn (f_Cr_mixInto N r7 μ6) (fun r9 μ8 => 
  bn (f_Sf_mixInto N r9 μ8) (fun r11 μ10 => 
  some (r11, μ10))))
def f_W_digest_L6 (N : Nat)   : Nat → Int64 → Int32 → Mm → Option (Int64 × Mm)
  | 0, _, _, _ => none
  | n + 1, v1, v3, μ =>
    if (6 : Int32) < v3 then (
    f_W_digest_B31 N v1 μ) else (
    bn (f_W_count N v3 μ) (fun r3 μ2 => 
    let x4 := (((31 : Int64) * v1) + (r3).toInt64)
    let x5 := (v3 + (1 : Int32))
    (f_W_digest_L6 N n) x4 x5 μ2))
def f_W_digest (N : Nat)  (μ : Mm) : Option (Int64 × Mm) :=
  f_W_digest_L6 N N (17 : Int64) (0 : Int32) μ
