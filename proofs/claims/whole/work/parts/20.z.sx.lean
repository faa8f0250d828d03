/-- what the constants hold -/
def Sx (X : Cx) (U : State) (H : Heap) : Prop := True
