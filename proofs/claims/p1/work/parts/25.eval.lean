set_option maxRecDepth 100000 in
theorem tX11 : f_X11_init.isSome = true := by decide +kernel
set_option maxRecDepth 100000 in
theorem tX12 : f_X12_init.isSome = true := by decide +kernel
def vX : V11 := f_X11_init.get tX11
def vM : V12 := f_X12_init.get tX12
def xg (a b c : Int32) : Nat → Int32 := fun i => if i = 1 then a else if i = 2 then b else c
set_option maxRecDepth 100000 in
theorem k1 : fk_1 (xg 0 0 0) vX vM (fun _ => 0) = some () := by decide +kernel
set_option maxRecDepth 100000 in
theorem k3 : fk_3 (xg 0 0 0) vX vM (fun _ => 0) = some () := by decide +kernel
set_option maxRecDepth 100000 in
theorem k4 : fk_4 (xg 0 0 0) vX vM (fun _ => 0) = some () := by decide +kernel
set_option maxRecDepth 100000 in
theorem k2a : fk_2 (xg 0 0 0) vX vM (fun _ => 0) = some () := by decide +kernel
set_option maxRecDepth 100000 in
theorem k2b : fk_2 (xg 1 0 0) vX vM (fun _ => 0) = some () := by decide +kernel
set_option maxRecDepth 100000 in
theorem k24 : fk_24 (xg 0 0 0) vX vM (fun _ => 0) = some () := by decide +kernel
