def mm_dc (ci j : Nat) : Nat := (mm_dcl.getD ci []).getD j 999
def mm_nf (ci j : Nat) : Bool := (mm_nfl.getD ci []).getD j false
def mm_fk (ci j : Nat) : Nat := (mm_fkl.getD ci []).getD j 9
def mm_ml (y : Nat) : Nat := mm_L.getD y 0
def mm_rk (y : Nat) : Nat := mm_R.getD y 9
