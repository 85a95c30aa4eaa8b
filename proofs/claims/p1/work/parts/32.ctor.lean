/-! FROM THE ENTRY: constructors, short scripts, the cut ahead of the switch. -/
theorem abCtor : ab_runF (fun _ => none) abP abNF (fun _ _ => none) 20000 0 [23] true (abP 0).1 [(0, .inr (.inl 0))] [] abG0 (1, [(0, abSC 8)]) 0 0 abK23 = true := by decide +kernel
theorem abShort0 : ab_runF (fun _ => none) abP abNF (fun _ _ => none) 20000 0 [] true (abP 0).1 [(0, .inr (.inl 0))] [] abG0 (1, [(0, abSC 0)]) 0 0 abKfin = true := by decide +kernel
theorem abShort1 : ab_runF (fun _ => none) abP abNF (fun _ _ => none) 20000 0 [] true (abP 0).1 [(0, .inr (.inl 0))] [] abG0 (1, [(0, abSC 1)]) 0 0 abKfin = true := by decide +kernel
theorem abShort2 : ab_runF (fun _ => none) abP abNF (fun _ _ => none) 20000 0 [] true (abP 0).1 [(0, .inr (.inl 0))] [] abG0 (1, [(0, abSC 2)]) 0 0 abKfin = true := by decide +kernel
theorem abShort3 : ab_runF (fun _ => none) abP abNF (fun _ _ => none) 20000 0 [] true (abP 0).1 [(0, .inr (.inl 0))] [] abG0 (1, [(0, abSC 3)]) 0 0 abKfin = true := by decide +kernel
theorem abShort4 : ab_runF (fun _ => none) abP abNF (fun _ _ => none) 20000 0 [] true (abP 0).1 [(0, .inr (.inl 0))] [] abG0 (1, [(0, abSC 4)]) 0 0 abKfin = true := by decide +kernel
theorem abShort5 : ab_runF (fun _ => none) abP abNF (fun _ _ => none) 20000 0 [] true (abP 0).1 [(0, .inr (.inl 0))] [] abG0 (1, [(0, abSC 5)]) 0 0 abKfin = true := by decide +kernel
theorem abShort6 : ab_runF (fun _ => none) abP abNF (fun _ _ => none) 20000 0 [] true (abP 0).1 [(0, .inr (.inl 0))] [] abG0 (1, [(0, abSC 6)]) 0 0 abKfin = true := by decide +kernel
theorem abShort7 : ab_runF (fun _ => none) abP abNF (fun _ _ => none) 20000 0 [] true (abP 0).1 [(0, .inr (.inl 0))] [] abG0 (1, [(0, abSC 7)]) 0 0 abKfin = true := by decide +kernel
theorem abCut : ab_runF abBS abP abNF (fun _ _ => none) 100 0 [40] true (ab_dr 13 (abP 0).1) abL0 [] abG0 abH0 489 917392 abK40 = true := by decide +kernel
