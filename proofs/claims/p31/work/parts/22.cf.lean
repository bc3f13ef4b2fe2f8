/-! THE CONSTRUCTORS AS FUNCTIONS -/
-- ForesightHub$Plan.<init>
abbrev rX4_init : Room := { frames := 1, cells := 9, slots := 100, locals := 40 }
noncomputable def fX4_init (P : Shp) (n : Nat) (s : St) (a0 : Int) : Option Hs :=
  mkA P n s 10 6 fun P n x1 s2 =>
  pR P 4 s2 a0 7 x1 fun s3 =>
  mkA P n s3 10 6 fun P n x4 s5 =>
  pR P 4 s5 a0 8 x4 fun s6 =>
  mkA P n s6 10 6 fun P n x7 s8 =>
  pR P 4 s8 a0 9 x7 fun s9 =>
  mkA P n s9 10 30 fun P n x10 s11 =>
  pR P 4 s11 a0 10 x10 fun s12 =>
  mkA P n s12 10 8 fun P n x13 s14 =>
  pR P 4 s14 a0 11 x13 fun s15 =>
  mkA P n s15 10 8 fun P n x16 s17 =>
  pR P 4 s17 a0 12 x16 fun s18 =>
  mkA P n s18 10 12 fun P n x19 s20 =>
  pR P 4 s20 a0 13 x19 fun s21 =>
  mkA P n s21 10 12 fun P n x22 s23 =>
  pR P 4 s23 a0 14 x22 fun s24 =>
  mkA P n s24 10 12 fun P n x25 s26 =>
  pR P 4 s26 a0 15 x25 fun s27 =>
  onO P 4 a0 <| cl (fX4_clear P s27 a0) fun s28 =>
  some (P, n, s28)
-- ForesightHub$Reader.<init>
abbrev rX5_init : Room := { frames := 2, cells := 14, slots := 742, locals := 60 }
noncomputable def fX5_init (P : Shp) (n : Nat) (s : St) (a0 : Int) : Option Hs :=
  mkA P n s 9 600 fun P n x1 s2 =>
  pR P 5 s2 a0 0 x1 fun s3 =>
  mkO P n s3 4 fun P n x4 s5 =>
  cl (fX4_init P n s5 x4) fun (P, n, s6) =>
  pR P 5 s6 a0 9 x4 fun s7 =>
  mkA P n s7 11 6 fun P n x8 s9 =>
  pR P 5 s9 a0 11 x8 fun s10 =>
  mkA P n s10 11 8 fun P n x11 s12 =>
  pR P 5 s12 a0 12 x11 fun s13 =>
  mkA P n s13 11 12 fun P n x14 s15 =>
  pR P 5 s15 a0 13 x14 fun s16 =>
  some (P, n, s16)
-- ForesightHub$ErrorBook.<init>
abbrev rX0_init : Room := { frames := 1, cells := 5, slots := 264, locals := 40 }
noncomputable def fX0_init (P : Shp) (n : Nat) (s : St) (a0 : Int) : Option Hs :=
  mkA P n s 10 8 fun P n x1 s2 =>
  pR P 0 s2 a0 0 x1 fun s3 =>
  mkA P n s3 10 96 fun P n x4 s5 =>
  pR P 0 s5 a0 1 x4 fun s6 =>
  mkA P n s6 10 96 fun P n x7 s8 =>
  pR P 0 s8 a0 2 x7 fun s9 =>
  mkA P n s9 10 32 fun P n x10 s11 =>
  pR P 0 s11 a0 4 x10 fun s12 =>
  mkA P n s12 10 32 fun P n x13 s14 =>
  pR P 0 s14 a0 5 x13 fun s15 =>
  some (P, n, s15)
-- ForesightHub$Log.<init>
abbrev rX3_init : Room := { frames := 1, cells := 4, slots := 82, locals := 40 }
noncomputable def fX3_init (P : Shp) (n : Nat) (s : St) (a0 : Int) : Option Hs :=
  mkA P n s 10 24 fun P n x1 s2 =>
  pR P 3 s2 a0 2 x1 fun s3 =>
  mkA P n s3 10 24 fun P n x4 s5 =>
  pR P 3 s5 a0 3 x4 fun s6 =>
  mkA P n s6 10 24 fun P n x7 s8 =>
  pR P 3 s8 a0 4 x7 fun s9 =>
  mkA P n s9 10 10 fun P n x10 s11 =>
  pR P 3 s11 a0 5 x10 fun s12 =>
  some (P, n, s12)
-- ForesightHub$State.<init>
abbrev rX6_init : Room := { frames := 2, cells := 17, slots := 422, locals := 60 }
noncomputable def fX6_init (P : Shp) (n : Nat) (s : St) (a0 : Int) : Option Hs :=
  mkA P n s 10 8 fun P n x1 s2 =>
  pR P 6 s2 a0 2 x1 fun s3 =>
  mkA P n s3 10 8 fun P n x4 s5 =>
  pR P 6 s5 a0 3 x4 fun s6 =>
  mkA P n s6 10 12 fun P n x7 s8 =>
  pR P 6 s8 a0 4 x7 fun s9 =>
  mkA P n s9 10 12 fun P n x10 s11 =>
  pR P 6 s11 a0 5 x10 fun s12 =>
  mkA P n s12 10 12 fun P n x13 s14 =>
  pR P 6 s14 a0 6 x13 fun s15 =>
  mkA P n s15 11 12 fun P n x16 s17 =>
  pR P 6 s17 a0 7 x16 fun s18 =>
  mkO P n s18 0 fun P n x19 s20 =>
  cl (fX0_init P n s20 x19) fun (P, n, s21) =>
  pR P 6 s21 a0 8 x19 fun s22 =>
  mkO P n s22 3 fun P n x23 s24 =>
  cl (fX3_init P n s24 x23) fun (P, n, s25) =>
  pR P 6 s25 a0 9 x23 fun s26 =>
  some (P, n, s26)
-- ForesightHub$Hub.<init>
abbrev rX2_init : Room := { frames := 3, cells := 28, slots := 548, locals := 80 }
noncomputable def fX2_init (P : Shp) (n : Nat) (s : St) (a0 : Int) : Option Hs :=
  mkO P n s 4 fun P n x1 s2 =>
  cl (fX4_init P n s2 x1) fun (P, n, s3) =>
  pR P 2 s3 a0 0 x1 fun s4 =>
  mkO P n s4 6 fun P n x5 s6 =>
  cl (fX6_init P n s6 x5) fun (P, n, s7) =>
  pR P 2 s7 a0 1 x5 fun s8 =>
  gR P 2 s8 a0 1 fun x9 =>
  gR P 2 s8 a0 0 fun x10 =>
  gF P 4 s8 x10 2 fun x11 =>
  pF P 6 s8 x9 1 x11 fun s12 =>
  some (P, n, s12)
-- ForesightHub$History.<init>
abbrev rX1_init : Room := { frames := 3, cells := 181, slots := 4330, locals := 80 }
noncomputable def fX1_init_L15 (c0 : Int) (kE : Shp → Nat → St → Option Hs) : Nat → Int → Shp → Nat → St → Option Hs
  | 0, _, _, _, _ => none
  | m + 1, p1, P, n, s =>
    jge p1 10
      (kE P n s)
      (gR P 1 s c0 0 fun x1 =>
      mkO P n s 6 fun P n x2 s2 =>
      cl (fX6_init P n s2 x2) fun (P, n, s3) =>
      sR P s3 x1 p1 x2 fun s4 =>
      bd (p1 + 1) fun x3 =>
      fX1_init_L15 c0 kE m x3 P n s4)
noncomputable def fX1_init (P : Shp) (n : Nat) (s : St) (a0 : Int) : Option Hs :=
  mkA P n s 13 10 fun P n x1 s2 =>
  pR P 1 s2 a0 0 x1 fun s3 =>
  fX1_init_L15 a0 (fun P n s9 =>
      some (P, n, s9)) 1000 0 P n s3
-- ForesightHub.<init>
abbrev rX7_init : Room := { frames := 4, cells := 264, slots := 6507, locals := 101 }
noncomputable def fX7_init_L54 (c0 : Int) (kE : Shp → Nat → St → Option Hs) : Nat → Int → Shp → Nat → St → Option Hs
  | 0, _, _, _, _ => none
  | m + 1, p1, P, n, s =>
    jge p1 2
      (kE P n s)
      (gR P 7 s c0 3 fun x1 =>
      mkO P n s 6 fun P n x2 s2 =>
      cl (fX6_init P n s2 x2) fun (P, n, s3) =>
      sR P s3 x1 p1 x2 fun s4 =>
      bd (p1 + 1) fun x3 =>
      fX7_init_L54 c0 kE m x3 P n s4)
noncomputable def fX7_init (P : Shp) (n : Nat) (s : St) (a0 : Int) : Option Hs :=
  mkO P n s 5 fun P n x1 s2 =>
  cl (fX5_init P n s2 x1) fun (P, n, s3) =>
  pR P 7 s3 a0 0 x1 fun s4 =>
  mkO P n s4 2 fun P n x5 s6 =>
  cl (fX2_init P n s6 x5) fun (P, n, s7) =>
  pR P 7 s7 a0 1 x5 fun s8 =>
  mkO P n s8 1 fun P n x9 s10 =>
  cl (fX1_init P n s10 x9) fun (P, n, s11) =>
  pR P 7 s11 a0 2 x9 fun s12 =>
  mkA P n s12 13 2 fun P n x13 s14 =>
  pR P 7 s14 a0 3 x13 fun s15 =>
  mkA P n s15 12 2 fun P n x16 s17 =>
  pR P 7 s17 a0 4 x16 fun s18 =>
  fX7_init_L54 a0 (fun P n s9 =>
      some (P, n, s9)) 1000 0 P n s18
