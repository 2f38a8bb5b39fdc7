section MJU3
variable {P : mj_P} {s0 : State} {M : mj_M}
theorem mw_I2 {own : String} {i k : Nat} (e : P.1 k = M) (h1 : mw_G s0 (.methodLink own i M.1)) (h2 : mw_G s0 (.instanceMethod M.1)) (h3 : mw_G s0 (.code M.1 M.2.1 M.2.2.1 none)) (hn : M.1.name = "<init>") (hy : mj_nmh M.1) {s : State} (hW : s0.WarmedH s.vm) (args : Array Value) : mj_cI P s args own i k := by
  subst e
  exact mw_I h1 h2 h3 hn hy hW args
theorem mw_meth2 {k : Nat} (e : P.1 k = M) (h : mw_G s0 (.code M.1 M.2.1 M.2.2.1 M.2.2.2.1)) (hh : M.2.2.2.2.1 = []) (hp : plainName M.1.cls = true) (hd : (parseMethodDescriptor M.1.desc).map (fun d => d.parameters.length) = some M.2.2.2.2.2) {U : State} (hW : s0.WarmedH U.vm) : mj_meth P k U := by
  subst e
  exact mw_meth h hh hp hd hW
theorem mw_methW2 {k : Nat} (e : P.1 k = M) (h : mw_G s0 (.codeWith M.1 M.2.1 M.2.2.1 M.2.2.2.1 (M.2.2.2.2.1.map fun q => (q.1, q.2.1, q.2.2.1, q.2.2.2.1)))) (hp : plainName M.1.cls = true) (hd : (parseMethodDescriptor M.1.desc).map (fun d => d.parameters.length) = some M.2.2.2.2.2) {U : State} (hW : s0.WarmedH U.vm) : mj_meth P k U := by
  subst e
  exact mw_methW h hp hd hW
theorem mw_methF {k : Nat} (e : P.1 k = M) (h : mw_G s0 (.code M.1 M.2.1 M.2.2.1 M.2.2.2.1)) (hh : M.2.2.2.2.1 = []) (hp : plainFor M.1 = true) (hd : (parseMethodDescriptor M.1.desc).map (fun d => d.parameters.length) = some M.2.2.2.2.2) {U : State} (hW : s0.WarmedH U.vm) : mj_meth P k U := by
  subst e
  have hw := h U #[] hW
  obtain ⟨mk, hn⟩ := Cond.code_named hw
  obtain ⟨meth, c, h1, h2, h3, h4, h5, h6, h7, h8⟩ := Cond.code_spec hn hw
  refine ⟨mk, meth, c, hn, h1, h2, h3, h4, h5, h6, ?_, ?_, State.plainMethod.of_named hp hn h1⟩
  · rw [mj_hs, show mj_hd P k = [] from hh]
    simpa [tableOf, Array.isEmpty_iff] using h7
  · rw [h8] at hd
    simpa using hd
end MJU3
