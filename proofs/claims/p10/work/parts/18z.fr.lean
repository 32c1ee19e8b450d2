section KQL
variable {p : Program} {l : Launch} {e0 : Env} {R : Room} {s : State} {m : MethodId} {args : Array Value} {below : List Frame} {meth : Method} {c : Code} {H : Heap} {locs : List Loc} {cells slots : Nat} {Q : State → Prop}
variable {cc : ByteArray} {pc : Nat} {ls : Array Slot} {rest st0 : List Value} {D : va_G} {A0 : Nat → Prop} {ws wc w1 : va_W} {H0 : Heap} {a : Array Value} {mc ms : Nat}
theorem kq_xh {k : Nat} (ws' : va_W) (hr : va_P D vwCl wc H → va_D A0 wc → (∀ q, va_A wc H.size q → A0 q) → vx_Run p l e0 R s m args below meth c H locs cells slots mc ms (F0 m pc ls st0) rest (kNo a) (kX D k w1 (va_A wc H.size)) (va_A wc H.size)) (hP : va_P D vwCl ws H) (hD : va_D A0 ws) (hS : va_S A0 H0 H locs) (hA : ∀ q, H0.size ≤ q → A0 q) (f : kFr wc ws w1 ws')
    (kk : ∀ (q : Nat) (ce : Cell) (H1 : Heap) (locs1 : List Loc), va_P D vwCl ws' H1 → va_D A0 ws' → va_S A0 H0 H1 locs1 → H1[q]? = some ce → ce.vm = .none → s.vm.findClass (kEx k) = some ce.cls → vx_W p l e0 R s m args below meth c H1 locs1 (cells + mc) (slots + ms) Q (F0 m pc ls rest) q) : W p l e0 R s m args below meth c H locs cells slots Q (F0 m pc ls st0) := by
  obtain ⟨n, h1, h2, h3, h4, h5, h6⟩ := f
  exact kcall_xh ws' (hr (hP.sub (kIT n 0) (km_f h1 h3)) (hD.sub (kIT n 0) (km_nd n) (km_T h1 h3)) (va_free hD hS hA (kIT n 0) (km_T h1 h3))) hP hD hS hA (kIT n 0) (kIT (n.map (!·)) 0) (km_T h1 h3) (km_T h2 h4) (kST (n.map (!·)) ws) (km_T (kLn_not h1) rfl) (km_T (kLn_not h2) h5) (km_cov h2 rfl) (km_dis rfl) h6 kk
end KQL
