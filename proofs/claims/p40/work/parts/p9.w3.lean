/-! ===== calls from the law's body that make cells ===== -/
section LG
variable {p : Program} {l : Launch} {e : Env} {R : Room} {s : State} {m : MethodId} {args : Array Value} {below : List Frame} {meth : Method} {c : Code} {H : Heap} {locs : List Loc} {cells slots : Nat} {Q : State → Prop}
variable {D : va_G} {ad adV : Nat → Nat} {aT : Nat → ClassId} {N : Nat} {A : Nat → Prop} {w : aW} {X : va_W} {tys : List (ClassId × FieldType)} {own : String} {cc : ByteArray} {nL pc : Nat} {ls : Array Slot}
theorem L_runG {r2 : aO} {mc2 ms2 : Nat} {st0 rest : List Value} {As : Array Value}
    (hr : vx_Run p l e R s m args below meth c H locs cells slots mc2 ms2 (F0 m pc ls st0) rest (QgE D ad aT N (aA ad N H.size) [] r2 As) Xno (aA ad N H.size)) (hL : Lx D ad aT N A s.heap w X H locs) (hA : ∀ q, s.heap.size ≤ q → A q)
    (kk : ∀ v, r2.1 = .inl v → ∀ (ad2 : Nat → Nat) (N2 : Nat) (H1 : Heap) (locs1 : List Loc), Agr ad ad2 N N2 → Lx D ad2 aT N2 A s.heap r2.2 X H1 locs1 → W p l e R s m args below meth c H1 locs1 (cells + mc2) (slots + ms2) Q (F0 m (pc + 3) ls ((v.map (cvv ad2)).toList ++ rest))) :
    W p l e R s m args below meth c H locs cells slots Q (F0 m pc ls st0) := by
  intro U hU X0
  obtain ⟨⟨hP, hw, hN, h8⟩, hD, hS⟩ := id hL
  have hsub := hL.sub hA
  have hA1 : ∀ q, q < H.size → aA ad N H.size q → A q := fun q _ h => hsub q h
  have far : ∀ (k : Nat) (q : Nat × va_E), X[k]? = some q → q.1 < H.size ∧ ¬ aA ad N H.size q.1 := by
    intro k q hk
    have hk2 : (conc ad aT N w ++ X)[N + k]? = some q := by rw [cx_r]; exact hk
    have hlt := (hP _ q hk2).lt
    refine ⟨hlt, ?_⟩
    rintro (⟨a, ha, e⟩ | h)
    · have h9 := hD.1 (N + k) (ps a) q _ hk2 (cx_l hN ha) e
      have h7 := ps_lt hN ha
      omega
    · omega
  rcases hr U hU X0 with ⟨v, st₀, t, T', Lc, h0, X', hLc, e1, e2, ⟨ad2, N2, hg, hD9, ⟨v2, hv2, ho⟩, hP2, hF⟩, sp⟩ | ⟨q, st₀, t, T', Lc, E, ce, h0, X', hLc, e1, e2, hE, hce, hcv, hcl, sp⟩
  · cases ho
    obtain ⟨k1, k2, k3⟩ := vx_keep h0 e1 hS hA1 hsub hLc hF
    have hP2 : va_P D vwCl (conc ad2 aT N2 r2.2 ++ []) T'.heap ∧ nW r2.2 = N2 := by rw [e1]; exact hP2
    have hDc := hD9 r2.2
    rw [List.append_nil] at hDc hP2
    have hL1 : Lx D ad2 aT N2 A s.heap r2.2 X T'.heap (locs ++ Lc) := by
      refine ⟨⟨fun k q hk => ?_, hP2.2, Nat.le_trans hN hg.1.1, hg.1.2⟩, va_D.app (hDc.weaken (fun k q _ h => hsub q.1 h)) ⟨fun i j x y hi hj e => ?_, fun k q hk => ?_⟩ (fun i j x y hx hy hxy => ?_), k3⟩
      · rcases Nat.lt_or_ge k N2 with h | h
        · rw [List.getElem?_append_left (by rw [conc_len]; exact h)] at hk
          exact hP2.1 k _ hk
        · obtain ⟨j, rfl⟩ : ∃ j, k = N2 + j := ⟨k - N2, by omega⟩
          rw [cx_r] at hk
          obtain ⟨f1, f2⟩ := far j q hk
          exact (hP (N + j) q (by rw [cx_r]; exact hk)).kept (k2 q.1 f1 f2)
      · have h9 := hD.1 (N + i) (N + j) x y (by rw [cx_r]; exact hi) (by rw [cx_r]; exact hj) e
        omega
      · exact hD.2 (N + k) q (by rw [cx_r]; exact hk)
      · exact (far j y hy).2 (by rw [← hxy]; exact hDc.2 i x hx)
    obtain ⟨t2, a1, b1⟩ := kk v2 hv2 ad2 N2 T'.heap (locs ++ Lc) hg hL1 T' rfl X'
    exact ⟨t2, sp t2 a1, b1⟩
  · exact hE.elim
end LG
