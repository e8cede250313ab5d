/-! WHAT A TEXT SAYS: its tokens from a place on, and a family's lines over them (b: the bytes, n: how many, m: the most) -/
section SPC
variable (b : Nat → Int32) (n m : Nat)
def isB (c : Int32) : Bool := nj_cmp .eq c 32 || nj_cmp .eq c 10
def isA (c : Int32) : Bool := isL c || isD c
/-- blanks from p on; letters and digits from p on -/
def sk : Nat → Nat → Nat
  | 0, p => p
  | k + 1, p => if p < n ∧ isB (b p) = true then sk k (p + 1) else p
def ru : Nat → Nat → Nat
  | 0, p => p
  | k + 1, p => if p < n ∧ isA (b p) = true then ru k (p + 1) else p
/-- the bytes from p on, j of them; what is true of all of them -/
def byl (p : Nat) : Nat → List Nat
  | 0 => []
  | j + 1 => byl p j ++ [(b (p + j)).toInt.toNat]
def alP (f : Int32 → Bool) (p : Nat) : Nat → Bool
  | 0 => true
  | j + 1 => alP f p j && f (b (p + j))
def dec : List Nat → Nat → Nat
  | [], w => w
  | c :: r, w => dec r (w * 10 + (c - 48))
def keyws : List (List Nat) := [[115, 116, 101, 112], [112, 101, 114, 115, 111, 110], [111, 102], [103, 111, 100], [99, 97, 114, 101], [101, 114, 114, 111, 114], [100, 101, 101, 100], [100, 111, 101, 115], [100, 105, 101, 115], [103, 105, 118, 101, 115], [121, 101, 97, 114], [111, 114], [97, 110, 100], [110, 111, 116], [97, 108, 105, 118, 101], [99, 108, 101, 97, 110], [104, 97, 115], [117, 110, 100, 101, 114], [101, 114, 114, 111, 114, 115], [98, 111, 114, 110], [109, 97, 100, 101], [110, 117, 109, 98, 101, 114]]
def kOf (w : List Nat) : Nat := match keyws.findIdx? (fun k => k == w) with
  | some i => 100 + i
  | none => 2
def isS (c : Int32) : Bool := (!nj_cmp .lt c 59 && !nj_cmp .gt c 62) || (nj_cmp .eq c 40 || nj_cmp .eq c 41)
/-- the token from p on: kind, place, word, number, where it ends -/
abbrev Tk : Type := Nat × Nat × List Nat × Nat × Nat
def tq (q : Nat) : Tk :=
  if isA (b q) = true then
    (if alP b isD q (ru b n 941 q - q) = true ∧ ru b n 941 q - q ≤ 3 then (3, q, [], dec (byl b q (ru b n 941 q - q)) 0, ru b n 941 q)
     else if alP b isL q (ru b n 941 q - q) = true ∧ ru b n 941 q - q ≤ 7 then (kOf (byl b q (ru b n 941 q - q)), q, byl b q (ru b n 941 q - q), 0, ru b n 941 q)
     else (1, q, [], 0, ru b n 941 q))
  else if isS (b q) = true then ((b q).toInt.toNat, q, [], 0, q + 1) else (1, q, [], 0, q + 1)
def tk (p : Nat) : Tk := if min n m ≤ sk b n 941 p then (0, min n m, [], 0, sk b n 941 p) else tq b n (sk b n 941 p)
end SPC
/-- a house: names of steps, persons, errors, deeds; born, parent, godchild, care (NONE where not told); of errors owner, first, second, wear, harm, good; of deeds the steps -/
abbrev Hs : Type := (List (List Nat) × List (List Nat) × List (List Nat) × List (List Nat)) × (List Nat × List (Option Nat) × List (Option Nat) × List (Option Nat)) × List (Nat × Nat × Nat × Nat × Nat × Nat) × List (List Nat)
def Hs0 : Hs := (([], [], [], []), ([], [], [], []), [], [])
/-- a fault (kind, place), or where the text goes on and something -/
abbrev Rs (α : Type) : Type := (Nat × Nat) ⊕ (Nat × α)
section SPD
variable (T : Nat → Tk)
def nameIn (w : List Nat) (H : Hs) : Bool := H.1.1.contains w || (H.1.2.1.contains w || (H.1.2.2.1.contains w || H.1.2.2.2.contains w))
/-- a line's first word and the name that it tells -/
def sBeg (cnt most p : Nat) (H : Hs) : Rs (List Nat) :=
  if cnt = most then .inl (4, (T p).2.1)
  else (let p1 := (T p).2.2.2.2
    if ¬ (T p1).1 = 2 then .inl (1, (T p1).2.1)
    else if nameIn (T p1).2.2.1 H = true then .inl (3, (T p1).2.1)
    else .inr ((T p1).2.2.2.2, (T p1).2.2.1))
/-- a name that is told: the text stays at it -/
def sKno (p : Nat) (ns : List (List Nat)) : Rs Nat :=
  if ¬ (T p).1 = 2 then .inl (1, (T p).2.1)
  else match ns.findIdx? (fun k => k == (T p).2.2.1) with
    | some i => .inr (p, i)
    | none => .inl (3, (T p).2.1)
def sNum (p lo hi : Nat) : Rs Nat :=
  if ¬ (T p).1 = 3 then .inl (1, (T p).2.1)
  else if (T p).2.2.2.1 < lo ∨ hi < (T p).2.2.2.1 then .inl (2, (T p).2.1)
  else .inr ((T p).2.2.2.2, (T p).2.2.2.1)
def sBind {α β : Type} (r : Rs α) (f : Nat → α → Rs β) : Rs β := match r with
  | .inl e => .inl e
  | .inr (p, a) => f p a
def sStep (p : Nat) (H : Hs) : Rs Hs := sBind (sBeg T H.1.1.length 6 p H) (fun p1 w => .inr (p1, ((H.1.1 ++ [w], H.1.2), H.2)))
def sPers (p : Nat) (H : Hs) : Rs Hs := sBind (sBeg T H.1.2.1.length 10 p H) (fun p1 w => sBind (sNum T p1 0 300) (fun p2 y =>
  let H2 : Hs := ((H.1.1, H.1.2.1 ++ [w], H.1.2.2), (H.2.1.1 ++ [y], H.2.1.2.1 ++ [none], H.2.1.2.2.1 ++ [none], H.2.1.2.2.2 ++ [none]), H.2.2)
  if (T p2).1 = 102 then sBind (sKno T (T p2).2.2.2.2 H.1.2.1) (fun p3 i => if y ≤ H.2.1.1.getD i 0 then .inl (3, (T p3).2.1) else .inr ((T p3).2.2.2.2, (H2.1, (H2.2.1.1, H.2.1.2.1 ++ [some i], H2.2.1.2.2), H2.2.2)))
  else .inr (p2, H2)))
def sGod (p : Nat) (H : Hs) : Rs Hs := sBind (sKno T (T p).2.2.2.2 H.1.2.1) (fun p1 i => if (H.2.1.2.2.1.getD i none).isSome = true then .inl (3, (T p1).2.1) else sBind (sKno T (T p1).2.2.2.2 H.1.2.1) (fun p2 j => if j = i then .inl (3, (T p2).2.1) else .inr ((T p2).2.2.2.2, (H.1, (H.2.1.1, H.2.1.2.1, H.2.1.2.2.1.set i (some j), H.2.1.2.2.2), H.2.2))))
def sCare (p : Nat) (H : Hs) : Rs Hs := sBind (sKno T (T p).2.2.2.2 H.1.2.1) (fun p1 i => if (H.2.1.2.2.2.getD i none).isSome = true then .inl (3, (T p1).2.1) else sBind (sNum T (T p1).2.2.2.2 0 9) (fun p2 v => .inr (p2, (H.1, (H.2.1.1, H.2.1.2.1, H.2.1.2.2.1, H.2.1.2.2.2.set i (some v)), H.2.2))))
def sErr (p : Nat) (H : Hs) : Rs Hs := sBind (sBeg T H.1.2.2.1.length 6 p H) (fun p1 w => sBind (sKno T p1 H.1.2.1) (fun p2 o => sBind (sKno T (T p2).2.2.2.2 H.1.1) (fun p3 f => sBind (sKno T (T p3).2.2.2.2 H.1.1) (fun p4 t => if t = f then .inl (3, (T p4).2.1) else sBind (sNum T (T p4).2.2.2.2 1 20) (fun p5 x => sBind (sNum T p5 0 20) (fun p6 y => sBind (sNum T p6 0 20) (fun p7 z => .inr (p7, ((H.1.1, H.1.2.1, H.1.2.2.1 ++ [w], H.1.2.2.2), H.2.1, H.2.2.1 ++ [(o, f, t, x, y, z)], H.2.2.2)))))))))
def sSts : Nat → Nat → List Nat → List (List Nat) → Rs (List Nat)
  | 0, p, _, _ => .inl (0, p)
  | k + 1, p, acc, ns => if 0 < acc.length ∧ (T p).1 = 59 then .inr (p, acc) else sBind (sKno T p ns) (fun p1 s => if acc.length = 12 then .inl (4, (T p1).2.1) else sSts k (T p1).2.2.2.2 (acc ++ [s]) ns)
def sDeed (p : Nat) (H : Hs) : Rs Hs := sBind (sBeg T H.1.2.2.2.length 4 p H) (fun p1 w => sBind (sSts T 14 p1 [] H.1.1) (fun p2 ss => .inr (p2, ((H.1.1, H.1.2.1, H.1.2.2.1, H.1.2.2.2 ++ [w]), H.2.1, H.2.2.1, H.2.2.2 ++ [ss]))))
def sLine (p : Nat) (H : Hs) : Rs Hs :=
  if (T p).1 = 100 then sStep T p H
  else if (T p).1 = 101 then sPers T p H
  else if (T p).1 = 103 then sGod T p H
  else if (T p).1 = 104 then sCare T p H
  else if (T p).1 = 105 then sErr T p H
  else if (T p).1 = 106 then sDeed T p H
  else .inl (1, (T p).2.1)
/-- the whole text: long says that there is more of it than may be -/
def sFam (long : Bool) : Nat → Nat → Hs → Nat → (Nat × Nat) ⊕ (Hs × Nat)
  | 0, p, _, _ => .inl (0, p)
  | k + 1, p, H, ln => if (T p).1 = 0 then (if long = true then .inl (1, (T p).2.1) else .inr (H, ln)) else match sLine T p H with
    | .inl e => .inl e
    | .inr (p1, H1) => if (T p1).1 = 59 then sFam long k (T p1).2.2.2.2 H1 (ln + 1) else .inl (1, (T p1).2.1)
end SPD
