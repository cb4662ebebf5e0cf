/-! what the volume is: files, the latest number, the next serial, the ring's cells, the open gatherings, power, writes left -/
abbrev sv_E : Type := Int32 × Int32 × Int32 × Int32 × Int32
abbrev sv_V : Type := List sv_E × Nat × Nat × (Nat → Nat → Int32) × List (Int32 × Int32) × Bool × Int32
abbrev sv_fs (V : sv_V) : List sv_E := V.1
abbrev sv_lt (V : sv_V) : Nat := V.2.1
abbrev sv_hd (V : sv_V) : Nat := V.2.2.1
abbrev sv_rg (V : sv_V) : Nat → Nat → Int32 := V.2.2.2.1
abbrev sv_gs (V : sv_V) : List (Int32 × Int32) := V.2.2.2.2.1
abbrev sv_on (V : sv_V) : Bool := V.2.2.2.2.2.1
abbrev sv_lf (V : sv_V) : Int32 := V.2.2.2.2.2.2
def sv_item (e : sv_E) (r : Int32) (k : Nat) : Int32 := if k = 0 then e.1 else if k = 1 then e.2.1 else if k = 2 then e.2.2.1 else if k = 3 then e.2.2.2.1 else if k = 4 then e.2.2.2.2 else r
/-- a write is counted off; false when power fails in its place -/
def sv_spend (V : sv_V) : Bool × sv_V := match V with
  | (fs, lt, hd, rg, gs, on, lf) => if lf = 0 then (false, (fs, lt, hd, rg, [], false, lf)) else (true, (fs, lt, hd, rg, gs, on, if 0 < lf then lf - 1 else lf))
def sv_app (V : sv_V) (e : sv_E) (r : Int32) : sv_V := match V with
  | (fs, lt, hd, rg, gs, on, lf) => (fs, lt, hd + 1, (fun i => if i = hd % 16 then sv_item e r else rg i), gs, on, lf)
def sv_find (fs : List sv_E) (n : Int32) : Option sv_E := fs.find? (fun e => decide (e.1 = n))
def sv_take (gs : List (Int32 × Int32)) (f : Int32) : List (Int32 × Int32) := gs.eraseP (fun g => decide (g.1 = f))
def sv_setG (V : sv_V) (gs' : List (Int32 × Int32)) : sv_V := match V with
  | (fs, lt, hd, rg, _, on, lf) => (fs, lt, hd, rg, gs', on, lf)
def sv_endG (V : sv_V) (g : Int32 × Int32) : sv_V := sv_setG (sv_app V ((sv_find (sv_fs V) g.1).getD (g.1, 0, 0, 0, 0)) (g.2 ||| 64)) (sv_take (sv_gs V) g.1)
def sv_closeG (V : sv_V) (g : Int32 × Int32) : Bool × sv_V := if (sv_spend V).1 then (true, sv_endG (sv_spend V).2 g) else (false, (sv_spend V).2)
def sv_gOf (gs : List (Int32 × Int32)) (f : Int32) : Option (Int32 × Int32) := gs.find? (fun g => decide (g.1 = f))
/-- reasons added to a file's gathering, opened if need be -/
def sv_gather : List (Int32 × Int32) → Int32 → Int32 → Int32 × List (Int32 × Int32)
  | [], f, r => (r, [(f, r)])
  | g :: gs, f, r => if g.1 = f then (g.2 ||| r, (g.1, g.2 ||| r) :: gs) else ((sv_gather gs f r).1, g :: (sv_gather gs f r).2)
/-- room for a gathering of the file -/
def sv_open (V : sv_V) (f : Int32) : Bool × sv_V := if (sv_gs V).length < 3 ∨ (sv_gOf (sv_gs V) f).isSome then (true, V) else match (sv_gs V).head? with
  | none => (true, V)
  | some g => sv_closeG V g
def sv_note (V : sv_V) (e : sv_E) (r : Int32) : Bool × sv_V := if (sv_spend V).1 then (true, sv_app (sv_setG (sv_spend V).2 (sv_gather (sv_gs (sv_spend V).2) e.1 r).2) e (sv_gather (sv_gs (sv_spend V).2) e.1 r).1) else (false, (sv_spend V).2)
/-- the last note of a change, with room for its gathering made first -/
def sv_chg (V : sv_V) (e : sv_E) (r : Int32) : Bool × sv_V := if (sv_open V e.1).1 then sv_note (sv_open V e.1).2 e r else (false, (sv_open V e.1).2)
