/-- class and reference, just made -/
def S0 (sd : Int64) : St := (fun k => match k with | 0 => 4 | 1 => 240 | 25 => 4 | 26 => 240 | _ => 0, fun k => match k with | 30 => cnt52 | _ => fun _ => 0, fun _ _ => 0, fun k => 39 + k, fun k => match k with | 2 => 0 | _ => sd)
