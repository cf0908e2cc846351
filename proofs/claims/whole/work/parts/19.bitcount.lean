/-! Integer.bitCount over natural numbers: 65536 cases by the kernel. -/
noncomputable section
def pop (m : Nat) : Nat := fo (fun k x => x + m / 2 ^ k % 2) 17 0 0
/-- Integer.bitCount over natural numbers -/
def bcN (x : Nat) : Nat :=
  let a := x - ((x >>> 1) &&& 1431655765)
  let b := (a &&& 858993459) + ((a >>> 2) &&& 858993459)
  let c := (b + (b >>> 4)) &&& 252645135
  let d := c + (c >>> 8)
  let e := d + (d >>> 16)
  e &&& 63
def bcOne (m : Nat) : Bool := bcN (2 * m) == bcN m && bcN (2 * m + 1) == bcN m + 1
def bcChk (j : Nat) : Bool := (List.range 2048).all (fun q => bcOne (2048 * j + q))
theorem bc_c0 : bcChk 0 = true := by decide +kernel
theorem bc_c1 : bcChk 1 = true := by decide +kernel
theorem bc_c2 : bcChk 2 = true := by decide +kernel
theorem bc_c3 : bcChk 3 = true := by decide +kernel
theorem bc_c4 : bcChk 4 = true := by decide +kernel
theorem bc_c5 : bcChk 5 = true := by decide +kernel
theorem bc_c6 : bcChk 6 = true := by decide +kernel
theorem bc_c7 : bcChk 7 = true := by decide +kernel
theorem bc_c8 : bcChk 8 = true := by decide +kernel
theorem bc_c9 : bcChk 9 = true := by decide +kernel
theorem bc_c10 : bcChk 10 = true := by decide +kernel
theorem bc_c11 : bcChk 11 = true := by decide +kernel
theorem bc_c12 : bcChk 12 = true := by decide +kernel
theorem bc_c13 : bcChk 13 = true := by decide +kernel
theorem bc_c14 : bcChk 14 = true := by decide +kernel
theorem bc_c15 : bcChk 15 = true := by decide +kernel
theorem bc_c16 : bcChk 16 = true := by decide +kernel
theorem bc_c17 : bcChk 17 = true := by decide +kernel
theorem bc_c18 : bcChk 18 = true := by decide +kernel
theorem bc_c19 : bcChk 19 = true := by decide +kernel
theorem bc_c20 : bcChk 20 = true := by decide +kernel
theorem bc_c21 : bcChk 21 = true := by decide +kernel
theorem bc_c22 : bcChk 22 = true := by decide +kernel
theorem bc_c23 : bcChk 23 = true := by decide +kernel
theorem bc_c24 : bcChk 24 = true := by decide +kernel
theorem bc_c25 : bcChk 25 = true := by decide +kernel
theorem bc_c26 : bcChk 26 = true := by decide +kernel
theorem bc_c27 : bcChk 27 = true := by decide +kernel
theorem bc_c28 : bcChk 28 = true := by decide +kernel
theorem bc_c29 : bcChk 29 = true := by decide +kernel
theorem bc_c30 : bcChk 30 = true := by decide +kernel
theorem bc_c31 : bcChk 31 = true := by decide +kernel
end
