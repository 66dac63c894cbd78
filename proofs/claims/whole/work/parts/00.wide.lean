-- names one word of the library's rest, so that the first round takes the wide header at once
theorem gs_wide0 {s : State} {vm' : Vm} {args : Array Value} (h : s.vm.Alike vm') (c : Cond) (hc : c.overAtom = true) (hh : c.before args s = true) : c.before args (s.setVm vm') = true := Cond.overAtom_setVm h c hc hh
