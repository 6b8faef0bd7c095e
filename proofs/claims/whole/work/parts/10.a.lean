def zCb (mi : zMI) : Bool := mi.2.2.2.2.2.2.2.all (fun ch => ch.all (zokx zcl zT zns zMs mi.1 mi.2.1))
theorem zCb_ok {mi : zMI} (h : zCb mi = true) : zCok zcl zT zns zMs mi := fun ch hc x hx => List.all_eq_true.mp (List.all_eq_true.mp h ch hc) x hx
