def xd_f (i : Nat) : Nat → Int32 := fun j => if j < i then (if j / 10 = j % 10 then 0 else 10) else 0
def xe_f (t : Nat) : Nat → Int32 := fun j => if 98 ≤ j ∧ j < 98 + t then (if (j - 98) / 10 = (j - 98) % 10 then 0 else 10) else 0
def xz_I : xc_M := fun a => match a with
  | 4 => xd_f 100
  | 34 => xd_f 100
  | 64 => xd_f 100
  | 132 => fun k => match k with
    | 1 => -1
    | _ => 0
  | _ => fun _ => 0
def xz_J : xc_M := fun a => match a with
  | 0 => fun k => match k with
    | 27 => -1
    | _ => 0
  | 1 => xe_f 100
  | _ => fun _ => 0
