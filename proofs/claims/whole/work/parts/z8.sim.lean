-- every call keeps what holds between calls
theorem sim_main : ∃ I : St → SM → Prop, Sim I ∧ I sX0 sM0 :=
  ⟨IV, ⟨fun s t x h => h.feed x, fun s t h => h.load, fun s t h => h.compile, fun s t x h => h.arg x, fun s t x y h => h.start x y, fun s t x h => h.run x, fun s t h => h.result, fun s t x h => h.peekMem x, fun s t h => h.rcodeLen, fun s t x h => h.rcode x, fun s t h => h.reset⟩, inv0⟩
