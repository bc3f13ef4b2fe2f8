/-! WHAT THE DOCUMENT'S NUMBERS DO: t what the text told, f the state's numbers, g the packets sent. -/
section ZD
def wantF (t f : Int → Int) (k : Int) : Int :=
  if gdF f (t (71 + 3 * k)) = true then t (71 + 3 * k) else if t (63 + t (71 + 3 * k)) = -1 then -1 else if gdF f (t (63 + t (71 + 3 * k))) = true then t (63 + t (71 + 3 * k)) else -1
def resvF (t f : Int → Int) : Int := forI (fun k a => a + (if f (238 + 3 * k) = 0 then 0 else t (71 + 3 * k + 1))) (t 2).toNat 0
def becF (f : Int → Int) (k m h : Int) : Int → Int := zu (zu f (238 + 3 * k) m) (238 + 3 * k + 1) h
def hapF (f : Int → Int) (kind who : Int) : Int → Int :=
  zu (zu (zu (zu (zu f (338 + 3 * (f 12 % 24)) kind) (338 + 3 * (f 12 % 24) + 1) who) (338 + 3 * (f 12 % 24) + 2) (f 0)) 12 (f 12 + 1)) (2 + kind) (f (2 + kind) + 1)
def seHF (t f : Int → Int) (k : Int) : Int → Int :=
  if f (238 + 3 * k + 1) = wantF t f k then zu f (238 + 3 * k) 1
  else if f (238 + 3 * k + 2) ≤ 0 then hapF (becF (zu f (238 + 3 * k) 2) k (if wantF t f k = -1 then 0 else 1) (wantF t f k)) (if wantF t f k = -1 then 5 else 4) k
  else zu f (238 + 3 * k) 2
def se1F (t f : Int → Int) : Int → Int := forI (fun k a => if a (238 + 3 * k) = 0 then a else seHF t a k) (t 2).toNat f
def seWF (t a : Int → Int) (k : Int) : Int → Int :=
  if a (238 + 3 * k) = 0 then (if wantF t a k = -1 then a else if t (71 + 3 * k + 1) ≤ t 3 - resvF t a then hapF (becF a k 1 (wantF t a k)) 6 k else a) else a
def setF (t f : Int → Int) : Int → Int := forI (fun k a => seWF t a k) (t 2).toNat (se1F t f)
def mstep (t f : Int → Int) (d p : Int) (k nx : Int) : Int :=
  if t (7 + 8 * p + 2) ≤ nx then nx + 0 else if f (14 + 28 * d + 4 + 2 * k + 1) ≤ f 0 - t (7 + 8 * p + 1) then nx + 0 else if f (14 + 28 * d + 4 + 2 * k) = t (7 + 8 * p + 3 + nx) then nx + 1 else nx + 0
def matF (t f : Int → Int) (d p : Int) : Bool := decide (forI (mstep t f d p) (f (14 + 28 * d + 3)).toNat 0 = t (7 + 8 * p + 2))
def mtsF (t f : Int → Int) (d : Int) : Int := forI (fun p a => ior a (if matF t f d p = true then ishl 1 p else 0)) (t 0).toNat 0
def scoF (t f : Int → Int) (d : Int) : Int := forI (fun p a => a + (if matF t f d p = true then t (7 + 8 * p) else 0)) (t 0).toNat 0
def shiF (f : Int → Int) (d : Int) : Int → Int := fun j => if 14 + 28 * d + 4 ≤ j ∧ j < 14 + 28 * d + 26 then f (j + 2) else f j
/-- an error more behind many others -/
def putF (f : Int → Int) (d kind : Int) : Int → Int :=
  zu (zu (zu f (14 + 28 * d + 4 + 2 * f (14 + 28 * d + 3)) kind) (14 + 28 * d + 4 + 2 * f (14 + 28 * d + 3) + 1) (f 0)) (14 + 28 * d + 3) (f (14 + 28 * d + 3) + 1)
def keeF (f : Int → Int) (d kind : Int) : Int → Int :=
  putF (if f (14 + 28 * d + 3) = 12 then zu (shiF f d) (14 + 28 * d + 3) 11 else f) d kind
def couK (f : Int → Int) (c : Int) : Int := if fstI (fun k => decide (f (274 + 2 * k) = c)) (f 13).toNat 0 = -1 then f 13 else fstI (fun k => decide (f (274 + 2 * k) = c)) (f 13).toNat 0
def couP (f : Int → Int) (k : Int) : Int → Int := zu (zu f (274 + 2 * k + 1) (f (274 + 2 * k + 1) + 1)) 11 (f 11 + 1)
def couF (f : Int → Int) (c : Int) : Int → Int :=
  couP (if couK f c = f 13 then zu (zu (zu f (274 + 2 * couK f c) c) (274 + 2 * couK f c + 1) 0) 13 (f 13 + 1) else f) (couK f c)
def isHd (f : Int → Int) (k d : Int) : Prop := f (238 + 3 * k) ≠ 0 ∧ f (238 + 3 * k + 1) = d
def floF (t f : Int → Int) (k : Int) : Int → Int :=
  if f (238 + 3 * k) = 1 then zu f (238 + 3 * k + 2) ((f (238 + 3 * k + 2) + t (71 + 3 * k + 1)) % t (71 + 3 * k + 2))
  else if f (238 + 3 * k) = 2 then
    zu f (238 + 3 * k + 2) (if f (238 + 3 * k + 2) + t (71 + 3 * k + 1) < t (71 + 3 * k + 2) then f (238 + 3 * k + 2) + t (71 + 3 * k + 1) else 0)
  else f
def floG (t f g : Int → Int) (k : Int) : Int → Int :=
  if f (238 + 3 * k) = 1 then zu g k (g k + (f (238 + 3 * k + 2) + t (71 + 3 * k + 1)) / t (71 + 3 * k + 2))
  else if f (238 + 3 * k) = 2 then (if f (238 + 3 * k + 2) + t (71 + 3 * k + 1) < t (71 + 3 * k + 2) then g else zu g k (g k + 1))
  else g
def calF (f : Int → Int) (d : Int) : Int → Int := hapF (zu (zu f (14 + 28 * d + 1) 0) (14 + 28 * d + 3) 0) 1 d
def ovF (t f : Int → Int) (d : Int) : Bool := decide (
  f (14 + 28 * d + 1) ≠ 0 ∧ t 6 ≤ f 0 - f (14 + 28 * d + 2) ∧ (f (14 + 28 * d + 3) = 0 ∨ t 6 ≤ f 0 - f (14 + 28 * d + 4 + 2 * f (14 + 28 * d + 3) - 1)))
def flow1 (t : Int → Int) (q : (Int → Int) × (Int → Int)) : (Int → Int) × (Int → Int) := forI (fun k q => (floF t q.1 k, floG t q.1 q.2 k)) (t 2).toNat q
def cal1 (t f : Int → Int) : Int → Int := forI (fun d a => if ovF t a d = true then calF a d else a) (t 1).toNat f
def frmF (t : Int → Int) (q : (Int → Int) × (Int → Int)) : (Int → Int) × (Int → Int) :=
  let q1 := flow1 t (zu q.1 0 (q.1 0 + 1), q.2)
  (setF t (cal1 t q1.1), q1.2)
def alaF (t f : Int → Int) (d : Int) : Int → Int := setF t (hapF (zu (zu f (14 + 28 * d + 1) 1) (14 + 28 * d + 2) (f 0)) 0 d)
end ZD
