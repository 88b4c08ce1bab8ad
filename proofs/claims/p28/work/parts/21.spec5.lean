theorem isIn_1 {a i n : Nat} (h1 : a ≤ i) (h : i ≤ n) (hn : n < 2 ^ 31) : isInS (nI i) (nI a) (nI n) = true := by
  unfold isInS
  have h1 : ¬ nI i < nI a := nI_nlt h1 (by omega)
  have h2 : ¬ nI n < nI i := nI_nlt h hn
  simp [h1, h2]
def dg1 (c : Cy) : Int64 := runL (mwS c) (c.R 10 0) (mixL (fun k => maS c (nI k)) 12 58232)
def dg2 (c : Cy) : Int64 := runL (mhS c) (c.R 10 1) (dg1 c)
def dg3 (c : Cy) : Int64 := mixS (runL (mlS c) (c.R 10 2) (dg2 c)) (nbS c)
def dgS (c : Cy) : Int64 := if c.R 10 1 = 0 ∨ c.R 10 0 = 0 then dg3 c else mixS (dg3 c) (bfS c 0 0 2 1)
