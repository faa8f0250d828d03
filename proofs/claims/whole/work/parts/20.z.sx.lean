/-- what the constants hold -/
def Sx (X : Cx) (U : State) (H : Heap) : Prop := True
theorem Sx.same {X : Cx} {u U : State} {H : Heap} (h : Sx X u H) : Sx X U H := trivial
theorem Sx.moved {X : Cx} {s U : State} {locs : List Loc} (hW : s.WarmedH U.vm) (hS : va_S (fun q => xB X ≤ q) s.heap U.heap locs) (h : Sx X s s.heap) : Sx X U U.heap := trivial
