/-! LOCALS, place by place. -/
theorem st_0 {a0 v : Value} {l : List Value} : aSet (a0 :: l) 0 v = v :: l := rfl
theorem sl_0 {a0 a1 v : Value} {l : List Value} : aSetL (a0 :: a1 :: l) 0 v = v :: aJk :: l := rfl
theorem st_1 {a0 a1 v : Value} {l : List Value} : aSet (a0 :: a1 :: l) 1 v = aNl a0 :: v :: l := rfl
theorem sl_1 {a0 a1 a2 v : Value} {l : List Value} : aSetL (a0 :: a1 :: a2 :: l) 1 v = aNl a0 :: v :: aJk :: l := rfl
theorem st_2 {a0 a1 a2 v : Value} {l : List Value} : aSet (a0 :: a1 :: a2 :: l) 2 v = a0 :: aNl a1 :: v :: l := rfl
theorem sl_2 {a0 a1 a2 a3 v : Value} {l : List Value} : aSetL (a0 :: a1 :: a2 :: a3 :: l) 2 v = a0 :: aNl a1 :: v :: aJk :: l := rfl
theorem st_3 {a0 a1 a2 a3 v : Value} {l : List Value} : aSet (a0 :: a1 :: a2 :: a3 :: l) 3 v = a0 :: a1 :: aNl a2 :: v :: l := rfl
theorem sl_3 {a0 a1 a2 a3 a4 v : Value} {l : List Value} : aSetL (a0 :: a1 :: a2 :: a3 :: a4 :: l) 3 v = a0 :: a1 :: aNl a2 :: v :: aJk :: l := rfl
theorem st_4 {a0 a1 a2 a3 a4 v : Value} {l : List Value} : aSet (a0 :: a1 :: a2 :: a3 :: a4 :: l) 4 v = a0 :: a1 :: a2 :: aNl a3 :: v :: l := rfl
theorem sl_4 {a0 a1 a2 a3 a4 a5 v : Value} {l : List Value} : aSetL (a0 :: a1 :: a2 :: a3 :: a4 :: a5 :: l) 4 v = a0 :: a1 :: a2 :: aNl a3 :: v :: aJk :: l := rfl
theorem st_5 {a0 a1 a2 a3 a4 a5 v : Value} {l : List Value} : aSet (a0 :: a1 :: a2 :: a3 :: a4 :: a5 :: l) 5 v = a0 :: a1 :: a2 :: a3 :: aNl a4 :: v :: l := rfl
theorem sl_5 {a0 a1 a2 a3 a4 a5 a6 v : Value} {l : List Value} : aSetL (a0 :: a1 :: a2 :: a3 :: a4 :: a5 :: a6 :: l) 5 v = a0 :: a1 :: a2 :: a3 :: aNl a4 :: v :: aJk :: l := rfl
theorem st_6 {a0 a1 a2 a3 a4 a5 a6 v : Value} {l : List Value} : aSet (a0 :: a1 :: a2 :: a3 :: a4 :: a5 :: a6 :: l) 6 v = a0 :: a1 :: a2 :: a3 :: a4 :: aNl a5 :: v :: l := rfl
theorem sl_6 {a0 a1 a2 a3 a4 a5 a6 a7 v : Value} {l : List Value} : aSetL (a0 :: a1 :: a2 :: a3 :: a4 :: a5 :: a6 :: a7 :: l) 6 v = a0 :: a1 :: a2 :: a3 :: a4 :: aNl a5 :: v :: aJk :: l := rfl
theorem st_7 {a0 a1 a2 a3 a4 a5 a6 a7 v : Value} {l : List Value} : aSet (a0 :: a1 :: a2 :: a3 :: a4 :: a5 :: a6 :: a7 :: l) 7 v = a0 :: a1 :: a2 :: a3 :: a4 :: a5 :: aNl a6 :: v :: l := rfl
theorem sl_7 {a0 a1 a2 a3 a4 a5 a6 a7 a8 v : Value} {l : List Value} : aSetL (a0 :: a1 :: a2 :: a3 :: a4 :: a5 :: a6 :: a7 :: a8 :: l) 7 v = a0 :: a1 :: a2 :: a3 :: a4 :: a5 :: aNl a6 :: v :: aJk :: l := rfl
theorem st_8 {a0 a1 a2 a3 a4 a5 a6 a7 a8 v : Value} {l : List Value} : aSet (a0 :: a1 :: a2 :: a3 :: a4 :: a5 :: a6 :: a7 :: a8 :: l) 8 v = a0 :: a1 :: a2 :: a3 :: a4 :: a5 :: a6 :: aNl a7 :: v :: l := rfl
theorem sl_8 {a0 a1 a2 a3 a4 a5 a6 a7 a8 a9 v : Value} {l : List Value} : aSetL (a0 :: a1 :: a2 :: a3 :: a4 :: a5 :: a6 :: a7 :: a8 :: a9 :: l) 8 v = a0 :: a1 :: a2 :: a3 :: a4 :: a5 :: a6 :: aNl a7 :: v :: aJk :: l := rfl
theorem st_9 {a0 a1 a2 a3 a4 a5 a6 a7 a8 a9 v : Value} {l : List Value} : aSet (a0 :: a1 :: a2 :: a3 :: a4 :: a5 :: a6 :: a7 :: a8 :: a9 :: l) 9 v = a0 :: a1 :: a2 :: a3 :: a4 :: a5 :: a6 :: a7 :: aNl a8 :: v :: l := rfl
theorem sl_9 {a0 a1 a2 a3 a4 a5 a6 a7 a8 a9 a10 v : Value} {l : List Value} : aSetL (a0 :: a1 :: a2 :: a3 :: a4 :: a5 :: a6 :: a7 :: a8 :: a9 :: a10 :: l) 9 v = a0 :: a1 :: a2 :: a3 :: a4 :: a5 :: a6 :: a7 :: aNl a8 :: v :: aJk :: l := rfl
theorem st_10 {a0 a1 a2 a3 a4 a5 a6 a7 a8 a9 a10 v : Value} {l : List Value} : aSet (a0 :: a1 :: a2 :: a3 :: a4 :: a5 :: a6 :: a7 :: a8 :: a9 :: a10 :: l) 10 v = a0 :: a1 :: a2 :: a3 :: a4 :: a5 :: a6 :: a7 :: a8 :: aNl a9 :: v :: l := rfl
theorem sl_10 {a0 a1 a2 a3 a4 a5 a6 a7 a8 a9 a10 a11 v : Value} {l : List Value} : aSetL (a0 :: a1 :: a2 :: a3 :: a4 :: a5 :: a6 :: a7 :: a8 :: a9 :: a10 :: a11 :: l) 10 v = a0 :: a1 :: a2 :: a3 :: a4 :: a5 :: a6 :: a7 :: a8 :: aNl a9 :: v :: aJk :: l := rfl
theorem st_11 {a0 a1 a2 a3 a4 a5 a6 a7 a8 a9 a10 a11 v : Value} {l : List Value} : aSet (a0 :: a1 :: a2 :: a3 :: a4 :: a5 :: a6 :: a7 :: a8 :: a9 :: a10 :: a11 :: l) 11 v = a0 :: a1 :: a2 :: a3 :: a4 :: a5 :: a6 :: a7 :: a8 :: a9 :: aNl a10 :: v :: l := rfl
theorem sl_11 {a0 a1 a2 a3 a4 a5 a6 a7 a8 a9 a10 a11 a12 v : Value} {l : List Value} : aSetL (a0 :: a1 :: a2 :: a3 :: a4 :: a5 :: a6 :: a7 :: a8 :: a9 :: a10 :: a11 :: a12 :: l) 11 v = a0 :: a1 :: a2 :: a3 :: a4 :: a5 :: a6 :: a7 :: a8 :: a9 :: aNl a10 :: v :: aJk :: l := rfl
theorem st_12 {a0 a1 a2 a3 a4 a5 a6 a7 a8 a9 a10 a11 a12 v : Value} {l : List Value} : aSet (a0 :: a1 :: a2 :: a3 :: a4 :: a5 :: a6 :: a7 :: a8 :: a9 :: a10 :: a11 :: a12 :: l) 12 v = a0 :: a1 :: a2 :: a3 :: a4 :: a5 :: a6 :: a7 :: a8 :: a9 :: a10 :: aNl a11 :: v :: l := rfl
theorem sl_12 {a0 a1 a2 a3 a4 a5 a6 a7 a8 a9 a10 a11 a12 a13 v : Value} {l : List Value} : aSetL (a0 :: a1 :: a2 :: a3 :: a4 :: a5 :: a6 :: a7 :: a8 :: a9 :: a10 :: a11 :: a12 :: a13 :: l) 12 v = a0 :: a1 :: a2 :: a3 :: a4 :: a5 :: a6 :: a7 :: a8 :: a9 :: a10 :: aNl a11 :: v :: aJk :: l := rfl
theorem st_13 {a0 a1 a2 a3 a4 a5 a6 a7 a8 a9 a10 a11 a12 a13 v : Value} {l : List Value} : aSet (a0 :: a1 :: a2 :: a3 :: a4 :: a5 :: a6 :: a7 :: a8 :: a9 :: a10 :: a11 :: a12 :: a13 :: l) 13 v = a0 :: a1 :: a2 :: a3 :: a4 :: a5 :: a6 :: a7 :: a8 :: a9 :: a10 :: a11 :: aNl a12 :: v :: l := rfl
theorem sl_13 {a0 a1 a2 a3 a4 a5 a6 a7 a8 a9 a10 a11 a12 a13 a14 v : Value} {l : List Value} : aSetL (a0 :: a1 :: a2 :: a3 :: a4 :: a5 :: a6 :: a7 :: a8 :: a9 :: a10 :: a11 :: a12 :: a13 :: a14 :: l) 13 v = a0 :: a1 :: a2 :: a3 :: a4 :: a5 :: a6 :: a7 :: a8 :: a9 :: a10 :: a11 :: aNl a12 :: v :: aJk :: l := rfl
theorem nl_i {x : Int32} : aNl (.int x) = .int x := rfl
theorem nl_r {x : Nat} : aNl (.ref x) = .ref x := rfl
theorem nl_k {x : Nat} : aNl (.retAddr x) = .retAddr x := rfl
theorem nl_j : aNl aJk = aJk := rfl
theorem nl_l {x : Int64} : aNl (.long x) = aJk := rfl
