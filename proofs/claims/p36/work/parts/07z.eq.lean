-- 07z: Arrays.equals of two rows that are the same
section ZEQ
variable {p : Program} {l : Launch} {e : Env} {R : Room} {s : State} {m : MethodId} {args : Array Value} {below : List Frame} {meth : Method} {c : Code} {H : Heap} {locs : List Loc} {cells slots : Nat} {Q : State → Prop}
variable {dC : Nat → ClassId} {dI : Nat → Nat → Nat} {A : Nat → Prop} {M : zMt} {ad : Nat → Nat} {cA : Nat → ClassId} {h : zH} {ls : Array Slot} {lst st : List Value} {pc len : Nat}
theorem zeqr_sim {a b idx : Nat} {r : List Value} (C : zCtx p R s m args meth c A M) (O : zOk dC dI s A M ad cA h H locs ls lst) (w0 : Cond.methodLink (zR M.1) idx eqName ∈ zTs) (w1 : Cond.static eqName ∈ zTs) (w2 : Cond.initialized "java/util/Arrays" ∈ zTs) (w3 : Cond.code eqName prog_21_method_83_code 3 (some .boolean) ∈ zTs)
    (hr : zwd r ≤ 8) (h6 : 6 ≤ M.2.2.2.2.2.1) (he : zeqr h a b = true) (hcl : cells ≤ R.cells) (hsl : slots ≤ R.slots) (hd : decode M.2.2.1 pc = .ok (.invokestatic idx, 3))
    (k : W p l e R s m args below meth c H locs cells slots Q (F0 m (pc + 3) ls (.int 1 :: r.map (zv ad)))) :
    W p l e R s m args below meth c H locs cells slots Q (F0 m pc ls (.ref (ad b) :: .ref (ad a) :: r.map (zv ad))) := sorry
end ZEQ
