def io_z0 : Nat → Int32 := fun _ => 0
def io_rH : Nat → Int32 := fun j => if j = 7 then 2 else 0
def io_rL : Nat → Int32 := fun j => if j = 1 then -1 else 0
def io_rW : Nat → Int32 := fun j => if j = 9 then -1 else 0
def io_rM : Nat → Int32 := fun j => if j = 37 then -1 else 0
/-- the memory at the start: all 0, but the handles are closed, the lists have no source, nothing failed, every file may be read and written -/
def io_s0 (fp fm : Nat → Int32) : io_M := fun k => if k < 20 then io_rH else if k < 40 then io_z0 else if k < 60 then io_rL else if k = 90 then fp else if k = 107 then io_rW else if k = 111 then io_rM else if k = 115 then fm else io_z0
