/-- what the cells hold at first -/
def dk_S0 : dk_S := (fun k => if k = 84 then (upd (upd (upd (upd (upd (upd (fun _ => 0) 0 (-1)) 1 (-1)) 2 (-1)) 3 (-1)) 4 (-1)) 5 (-1)) else if k = 87 then (upd (upd (upd (upd (fun _ => 0) 0 (-1)) 1 (-1)) 2 (-1)) 3 (-1)) else match dk_kd k with
  | 5 => fun j => if j = 1 then -1 else 0
  | 6 => fun j => if j = 1 then -1 else 0
  | 3 => fun j => if j = 1 then 1 else 0
  | 4 => fun j => if j = 3 then -9 else 0
  | _ => fun _ => 0, fun k => if k = 0 then (fun j => if j = 14 then 1 else 0) else if k = 82 then (fun j => if j = 4 then 1 else 0) else fun _ => 0)
